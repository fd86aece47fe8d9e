import java.io.IOException;
import java.nio.file.Files;
import java.nio.file.Path;
import java.util.List;
import java.util.regex.Matcher;
import java.util.regex.Pattern;

/** Those rules of ../shared/LANGUAGE.md that can be seen from the words of the program's text. */
public final class LanguageTest {
    private static final String[] RULED_OUT = {
        "->", "::", "\\btry\\b", "\\bcatch\\b", "\\bfinally\\b", "\\bsynchronized\\b", "\\bassert\\b", "\\bstatic\\s*\\{",
        "\\w+Exact\\b", "\\bhashCode\\b", "\\btoString\\b", "\\bpackage\\b", "\\bSystem\\.(?!arraycopy\\b)", "\\bdouble\\b",
        "\\bfloat\\b", "\\bInteger\\.valueOf\\b", "\\bInteger\\.[A-Z]{2}", "\\bvolatile\\b", "\\bnative\\b", "\\bObject\\b", "\\bvar\\b"};

    public static void main(String[] args) throws IOException {
        Due due = new Due("LanguageTest");
        String text = Files.readString(Path.of("src/main/java/Cablecourt.java"));
        for (int i = 0; i < text.length(); i++) {
            if (text.charAt(i) > 127) {
                due.tell("a sign beyond 127 at " + i);
            }
        }
        String code = text.replaceAll("(?s)/\\*.*?\\*/", "").replaceAll("//[^\n]*", "").replaceAll("\"[^\"\n]*\"", "\"\"");
        for (String words : RULED_OUT) {
            due.is(words, Pattern.compile(words).matcher(code).find(), false);
        }
        Matcher imports = Pattern.compile("import ([^;]*);").matcher(code);
        while (imports.find()) {
            due.is(imports.group(), List.of("java.util.ArrayList", "java.util.List").contains(imports.group(1)), true);
        }
        Matcher thrown = Pattern.compile("\\bthrow\\b([^;]*);").matcher(code);
        while (thrown.find()) {
            String named = thrown.group(1).trim();
            due.is(named, named.matches("new (IndexOutOfBounds|IllegalArgument|IllegalState)Exception\\(\"\"\\)"), true);
        }
        methods(due, code);
        due.end();
    }

    /** A method is at most sixty lines long, and takes at most seven parameters. */
    private static void methods(Due due, String code) {
        Matcher heads = Pattern.compile("(?m)^( +)(?:[a-z]+ )*[\\w<>\\[\\]]+ ?\\w*\\(([^)]*)\\)[^;{=]*\\{$").matcher(code);
        while (heads.find()) {
            String head = heads.group().trim();
            int end = code.indexOf("\n" + heads.group(1) + "}", heads.end());
            due.is(head + " has an end", end >= 0, true);
            long lines = code.substring(heads.start(), Math.max(heads.end(), end)).lines().count();
            due.is(head + " is short", lines <= 60, true);
            due.is(head + " takes at most seven", heads.group(2).split(",").length <= 7, true);
        }
    }
}
