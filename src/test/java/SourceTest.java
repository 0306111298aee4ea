import java.io.IOException;
import java.nio.file.Files;
import java.nio.file.Path;
import java.util.List;
import java.util.regex.Matcher;
import java.util.regex.Pattern;

/** What LANGUAGE.md rules out and can be found by reading the source; it runs from the project's folder. */
public final class SourceTest {
    private static final String[] RULED_OUT = {
        "->", "::", "\\bfinally\\b", "\\bsynchronized\\b", "\\bassert\\b", "\\bcatch\\b", "\\bvolatile\\b",
        "\\bfloatToIntBits\\b", "\\bfloatToRawIntBits\\b", "\\bFloat\\b", "\\bDouble\\b", "\\bObject\\b",
        "\\bhashCode\\b", "\\bequals\\b", "\\btoString\\b", "\\bSystem\\b", "\\bThread\\b", "\\bMap\\b", "\\bSet\\b",
        "Exact\\b", "\\bstatic \\{", "\"\\s*\\+", "\\+\\s*\"", "\\bvar\\b", "\\bpackage\\b", "\\bMath\\.sqrt\\b",
        "\\bprotected\\b", "\\bfor \\(;;\\)", "while \\(true\\)"};

    public static void main(String[] args) throws IOException {
        Path file = Path.of("src/main/java/Beadslant.java");
        String text = Files.readString(file);
        List<String> lines = Files.readAllLines(file);
        for (String ruledOut : RULED_OUT) {
            Matcher found = Pattern.compile(ruledOut).matcher(text);
            Due.is("places with " + ruledOut, found.find() ? 1 : 0, 0);
        }
        boolean isPlain = text.chars().allMatch(sign -> sign > 0 && sign < 128);
        Due.is("signs of 1 to 127 alone", isPlain, true);
        importsAre(lines);
        throwsAreKnown(text);
        methodsAreShort(lines);
        Due.end();
    }

    private static void importsAre(List<String> lines) {
        for (String line : lines) {
            if (line.startsWith("import ")) {
                Due.is("the import '" + line + "'", line.equals("import java.util.NoSuchElementException;"), true);
            }
        }
    }

    private static void throwsAreKnown(String text) {
        Matcher thrown = Pattern.compile("throw (.*?);").matcher(text);
        while (thrown.find()) {
            boolean isKnown = thrown.group(1).matches("new (IllegalState|IllegalArgument|IndexOutOfBounds"
                    + "|UnsupportedOperation|NoSuchElement)Exception\\(\"[^\"]*\"\\)");
            Due.is("'" + thrown.group() + "' is of rule 6", isKnown, true);
        }
    }

    private static void methodsAreShort(List<String> lines) {
        int begun = -1;
        String end = "";
        for (int i = 0; i < lines.size(); i++) {
            String line = lines.get(i);
            if (begun < 0 && line.matches("( {4}| {8})[a-z].*[({,]") && line.contains("(")) {
                begun = i;
                end = line.replaceAll("\\S.*", "") + "}";
            }
            if (begun >= 0 && line.equals(end)) {
                Due.is("lines of '" + lines.get(begun).trim() + "' are 60 at most", i - begun < 60, true);
                begun = -1;
            }
        }
    }
}
