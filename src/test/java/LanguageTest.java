import java.io.IOException;
import java.net.URISyntaxException;
import java.nio.file.Files;
import java.nio.file.Path;
import java.util.List;
import java.util.regex.Matcher;
import java.util.regex.Pattern;
import java.util.stream.Stream;

/** That the program names nothing that LANGUAGE.md rules out, as far as its words and what it calls can show it. */
public final class LanguageTest {
    private static final String PROGRAM = "src/main/java/Nearestclock.java";
    private static final String[] RULED_OUT = {
        "\\bpackage\\b", "\\bimport (?!java\\.util\\.(ArrayList|Arrays|Iterator|List|NoSuchElementException|\\*);)",
        "\\bprotected\\b", "\\b(Double|Float|Object|Character|Thread|StrictMath)\\b", "\\bfinally\\b",
        "\\bsynchronized\\b", "\\bvolatile\\b", "\\bnative\\b", "\\bassert\\b", "\\bstatic\\s*\\{",
        "\\bhashCode\\b", "\\bNaN\\b"};
    private static final String OF_RULE_6 = "(IllegalStateException|IllegalArgumentException"
            + "|IndexOutOfBoundsException|ArithmeticException|UnsupportedOperationException|NoSuchElementException"
            + "|RuntimeException)";
    private static final Pattern CATCH = Pattern.compile("\\bcatch\\b(?!\\s*\\(\\s*(final\\s+)?" + OF_RULE_6 + "\\b)");
    private static final Pattern THROW =
            Pattern.compile("\\bthrow\\b(?!\\s+new " + OF_RULE_6 + "\\(\\s*(\"\")?\\s*\\);)");

    // Rules 3, 4 and 6, and what javac itself calls for an enum, a record and a switch. A lambda, a method reference
    // and texts joined by + would call what stands in java/lang/invoke.
    private static final Pattern ADMITTED = Pattern.compile("Nearestclock.*|\\[.*\\.clone .*"
            + "|java/lang/(Object|Record|Enum)\\.<init> .*|java/lang/Enum\\.(valueOf|ordinal) .*"
            + "|java/util/Objects\\.requireNonNull .*|java/lang/runtime/ObjectMethods\\.bootstrap .*"
            + "|java/lang/IncompatibleClassChangeError\\.<init> .*"
            + "|java/(lang|util)/" + OF_RULE_6 + "\\.<init> \\((Ljava/lang/String;)?\\)V"
            + "|java/lang/(Math|Integer|Long)\\.(?!\\w*Exact )\\w+ \\([IJ]*\\)[IJZ]"
            + "|java/lang/Integer\\.(valueOf \\(I\\)|intValue ).*"
            + "|java/lang/String\\.(length|charAt|isEmpty|equals|indexOf|substring|toCharArray) .*"
            + "|java/lang/String\\.<init> \\(\\[C\\)V"
            + "|java/lang/StringBuilder\\.(<init>|charAt|setCharAt|setLength|deleteCharAt|reverse|length|toString) .*"
            + "|java/lang/StringBuilder\\.append \\((C|I|Ljava/lang/String;)\\).*"
            + "|java/util/(ArrayList|List)\\.(<init>|add|get|set|remove|size|isEmpty|clear|iterator|of) .*"
            + "|java/util/Iterator\\.(hasNext|next) .*|java/lang/Iterable\\.iterator .*"
            + "|java/lang/Comparable\\.compareTo .*|java/lang/System\\.arraycopy .*"
            + "|java/util/Arrays\\.(copyOf|copyOfRange|fill) .*");

    private LanguageTest() {
    }

    public static void main(String[] args) throws IOException, URISyntaxException {
        String program = withoutTexts(Files.readString(Path.of(PROGRAM)));
        for (String each : RULED_OUT) {
            Matcher found = Pattern.compile(each).matcher(program);
            Check.isTrue("the program has no " + each, !found.find());
        }
        Check.isTrue("each throw is a new exception of rule 6", !THROW.matcher(program).find());
        Check.isTrue("each catch is of an exception of rule 6", !CATCH.matcher(program).find());
        for (Path compiled : compiledClasses()) {
            for (String called : CalledNames.of(compiled)) {
                Check.isTrue("rules 3, 4 and 6 admit " + called, ADMITTED.matcher(called).matches());
            }
        }
        Check.end(LanguageTest.class);
    }

    /** Without comments, and with nothing in its texts. */
    private static String withoutTexts(String program) {
        String code = program.replaceAll("(?s)/\\*.*?\\*/", "").replaceAll("//[^\n]*", "");
        return code.replaceAll("\"(\\\\.|[^\"\\\\\n])*\"", "\"\"");
    }

    /** The program's own class and those inside it. */
    private static List<Path> compiledClasses() throws IOException, URISyntaxException {
        Path own = Path.of(Nearestclock.class.getResource("Nearestclock.class").toURI());
        try (Stream<Path> all = Files.list(own.getParent())) {
            return all.filter(each -> each.getFileName().toString().matches("Nearestclock(\\$.*)?\\.class")).toList();
        }
    }
}
