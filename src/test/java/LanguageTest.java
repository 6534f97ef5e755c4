import java.io.IOException;
import java.nio.file.Files;
import java.nio.file.Path;
import java.util.regex.Matcher;
import java.util.regex.Pattern;

/** That the program names nothing that LANGUAGE.md rules out, as far as its words alone can show it. */
public final class LanguageTest {
    private static final String PROGRAM = "src/main/java/Nearestclock.java";
    private static final String[] RULED_OUT = {
        "\\bpackage\\b", "\\bimport\\b", "\\bprotected\\b", "\\bDouble\\b", "\\bFloat\\b", "\\bStrictMath\\b",
        "\\bSystem\\b", "\\bObject\\b", "\\bCharacter\\b", "\\w+Exact\\b", "\\btry\\b", "\\bcatch\\b",
        "\\bfinally\\b", "\\bsynchronized\\b", "\\bassert\\b", "->", "::", "\\bstatic\\s*\\{", "\\bequals\\b",
        "\\bhashCode\\b", "\\btoString\\b", "\\bThread\\b", "\\bvolatile\\b", "\\bnative\\b", "@"};
    private static final Pattern LIBRARY = Pattern.compile("\\b(Math|Integer|Long)\\.(\\w+)");
    private static final Pattern THROW = Pattern.compile("\\bthrow\\b(?! new (IllegalArgumentException"
            + "|IndexOutOfBoundsException|ArithmeticException)\\(\"\"\\);)");

    private LanguageTest() {
    }

    public static void main(String[] args) throws IOException {
        String program = withoutTexts(Files.readString(Path.of(PROGRAM)));
        for (String each : RULED_OUT) {
            Matcher found = Pattern.compile(each).matcher(program);
            Check.isTrue("the program has no " + each, !found.find());
        }
        Check.isTrue("each throw is a new exception of the document", !THROW.matcher(program).find());
        Matcher library = LIBRARY.matcher(program);
        while (library.find()) {
            boolean isListed = library.group(2).matches("abs|compare|numberOfLeadingZeros");
            Check.isTrue(library.group() + " is one of the static functions in use", isListed);
        }
        Check.end(LanguageTest.class);
    }

    /** Without comments, and with nothing in its texts. */
    private static String withoutTexts(String program) {
        String code = program.replaceAll("(?s)/\\*.*?\\*/", "").replaceAll("//[^\n]*", "");
        return code.replaceAll("\"[^\"\n]*\"", "\"\"");
    }
}
