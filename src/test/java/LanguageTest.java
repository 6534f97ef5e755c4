import java.io.IOException;
import java.nio.file.Files;
import java.nio.file.Path;
import java.util.regex.Matcher;
import java.util.regex.Pattern;

/** That the program names nothing that LANGUAGE.md rules out, as far as its words alone can show it. */
public final class LanguageTest {
    private static final String PROGRAM = "src/main/java/Nearestclock.java";
    private static final String[] RULED_OUT = {
        "\\bpackage\\b", "\\bimport (?!java\\.util\\.(ArrayList|Arrays|Iterator|List|NoSuchElementException);)",
        "\\bprotected\\b", "\\b(Double|Float|Object|Character|Thread|StrictMath)\\b", "\\bSystem\\.(?!arraycopy\\b)",
        "\\w+Exact\\b", "\\bfinally\\b", "\\bsynchronized\\b", "\\bvolatile\\b", "\\bnative\\b", "\\bassert\\b",
        "->", "::", "\\bstatic\\s*\\{", "\\bhashCode\\b", "\\bNaN\\b"};
    private static final Pattern CATCH = Pattern.compile("\\bcatch\\b(?! \\((IllegalStateException"
            + "|IllegalArgumentException|IndexOutOfBoundsException|ArithmeticException|UnsupportedOperationException"
            + "|NoSuchElementException|RuntimeException) )");
    private static final Pattern THROW = Pattern.compile("\\bthrow\\b(?! new (IllegalStateException"
            + "|IllegalArgumentException|IndexOutOfBoundsException|ArithmeticException|UnsupportedOperationException"
            + "|NoSuchElementException|RuntimeException)\\((\"\")?\\);)");

    private LanguageTest() {
    }

    public static void main(String[] args) throws IOException {
        String program = withoutTexts(Files.readString(Path.of(PROGRAM)));
        for (String each : RULED_OUT) {
            Matcher found = Pattern.compile(each).matcher(program);
            Check.isTrue("the program has no " + each, !found.find());
        }
        Check.isTrue("each throw is a new exception of rule 6", !THROW.matcher(program).find());
        Check.isTrue("each catch is of an exception of rule 6", !CATCH.matcher(program).find());
        Check.end(LanguageTest.class);
    }

    /** Without comments, and with nothing in its texts. */
    private static String withoutTexts(String program) {
        String code = program.replaceAll("(?s)/\\*.*?\\*/", "").replaceAll("//[^\n]*", "");
        return code.replaceAll("\"[^\"\n]*\"", "\"\"");
    }
}
