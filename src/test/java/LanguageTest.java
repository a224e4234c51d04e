import java.io.IOException;
import java.nio.file.Files;
import java.nio.file.Path;
import java.util.regex.Matcher;
import java.util.regex.Pattern;

/** The rules of LANGUAGE.md that can be read off the source; -Dsource tells where it is. */
public final class LanguageTest {
    private static final String[] FORBIDDEN = {
        "\\bthrow\\b", "\\bthrows\\b", "\\btry\\b", "\\bcatch\\b", "\\bfinally\\b", "\\bsynchronized\\b",
        "\\bassert\\b", "\\bimport\\b", "\\bpackage\\b", "->", "::", "\\bprotected\\b", "\\bvolatile\\b",
        "\\btransient\\b", "\\bnative\\b", "\\bvar\\b", "\\bObject\\b", "\\bhashCode\\b", "\\btoString\\b",
        "Exact\\b", "\\bstatic\\s*\\{", "\\bfloat\\b", "\\bdouble\\b", "@"};

    /** Of rule 4's library what a class without lists and texts can need: functions, no constants such as MAX_VALUE. */
    private static final String LIBRARY = "(Math\\.(max|min|abs|floorDiv|floorMod)|Integer\\.(bitCount|compare|max|min)"
        + "|System\\.arraycopy|Arrays\\.(copyOf|copyOfRange|fill))\\(";

    public static void main(String[] args) throws IOException {
        String place = System.getProperty("source", "src/main/java/TheUsual.java");
        String source = Files.readString(Path.of(place));
        String code = source.replaceAll("(?s)/\\*.*?\\*/", "").replaceAll("//[^\n]*", "");
        for (String word : FORBIDDEN) {
            Check.due("uses of " + word, count(code, word), 0);
        }
        Check.due("while loops without a bound", count(code, "while \\(true\\)|for \\(;;\\)"), 0);
        Check.due("classes that are not static", count(code, "(?<!static )(?<!static final )\\bclass\\b"), 1);
        Check.due("classes, at most 12", Math.max(count(code, "\\bclass\\b"), 12), 12);
        Check.due("static fields that are not final", count(code, "\\bstatic (?!final\\b)[^(){};]*[=;]"), 0);
        library(code);
        signs(source);
        methods(source);
        Check.end();
    }

    private static int count(String code, String pattern) {
        Matcher matcher = Pattern.compile(pattern).matcher(code);
        int found = 0;
        while (matcher.find()) {
            found++;
        }
        return found;
    }

    /** Each name of a class with a point behind it is a use of the library, and rule 4 allows it. */
    private static void library(String code) {
        Matcher matcher = Pattern.compile("\\b[A-Z]\\w*\\.\\w+\\(?").matcher(code);
        while (matcher.find()) {
            Check.due("rule 4 allows " + matcher.group(), matcher.group().matches(LIBRARY) ? 1 : 0, 1);
        }
    }

    private static void signs(String source) {
        for (int i = 0; i < source.length(); i++) {
            char sign = source.charAt(i);
            if (sign != '\n' && (sign < 32 || sign > 126)) {
                Check.due("sign at " + i, sign, ' ');
            }
        }
    }

    /** A method begins with a line that ends in ") {" at the depth of members, and ends with "}" at that depth. */
    private static void methods(String source) {
        String[] lines = source.split("\n");
        int begun = -1;
        String indent = "";
        Pattern head = Pattern.compile("^( {4}| {8})[a-zA-Z][^=]*\\((.*)\\) \\{$");
        for (int i = 0; i < lines.length; i++) {
            Matcher matcher = head.matcher(lines[i]);
            if (begun < 0 && matcher.matches()) {
                begun = i;
                indent = matcher.group(1);
                int parameters = matcher.group(2).split(",").length;
                Check.due("parameters, at most 7: " + lines[i].trim(), Math.max(parameters, 7), 7);
            } else if (begun >= 0 && lines[i].equals(indent + "}")) {
                int length = i - begun + 1;
                Check.due("lines, at most 60: " + lines[begun].trim(), Math.max(length, 60), 60);
                begun = -1;
            }
        }
    }
}
