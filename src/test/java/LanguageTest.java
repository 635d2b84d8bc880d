import java.io.IOException;
import java.nio.file.Files;
import java.nio.file.Path;
import java.util.regex.Matcher;
import java.util.regex.Pattern;

/** Looks for what ../shared/LANGUAGE.md rules out, as far as the text of the class alone can tell it. */
public final class LanguageTest {
    private static final String[] WORDS = {"throw", "throws", "try", "catch", "finally", "synchronized", "assert", "hashCode",
        "protected", "volatile", "transient", "native", "Object", "Thread", "Random", "Runtime", "Class", "Exception"};

    private static int wrong;

    public static void main(String[] args) throws IOException {
        String source = Files.readString(Path.of("src/main/java/PaperHouse.java"));
        String code = bare(source);
        for (String word : WORDS) {
            tell(code, "\\b" + word + "\\b", word);
        }
        tell(code, "\\w+Exact\\b", "a call that throws");
        tell(code, "\\bSystem\\.(?!arraycopy)", "a call of System");
        tell(code, "(?m)^package\\b", "a package line");
        tell(code, "(?m)^(?!.*\\b(case|default)\\b).*->", "a lambda");
        tell(code, "::", "a method reference");
        tell(code, "\"\"\\s*\\+(?!\\+)|\\+\\s*\"\"", "texts joined by +");
        tell(withoutRemarks(source), "[^\\x01-\\x7f]", "a sign beyond 127");
        tell(code, "import (?!java\\.util\\.(Arrays|ArrayList|List|Iterator|\\*);)", "an import");
        tell(code, "(?m)^    (?!private|public|static (final |abstract )*(class|record|enum|interface)|(final |abstract )*(record|enum|interface)"
                + "|}|@|$|\\s)", "a member that is neither private nor the face's");
        tell(code, "static (?!final)(int|long|byte|boolean|char|String)(\\[\\])? \\w+( =|;)", "a static field that is not final");
        methods(code);
        System.out.println(wrong == 0 ? "nothing is ruled out" : wrong + " places are ruled out");
        if (wrong != 0) {
            System.exit(1);
        }
    }

    private static void tell(String code, String pattern, String what) {
        Matcher matcher = Pattern.compile(pattern).matcher(code);
        while (matcher.find()) {
            wrong++;
            System.out.println("line " + code.substring(0, matcher.start()).split("\n", -1).length + ": " + what);
        }
    }

    private static final Pattern APART = Pattern.compile("/\\*.*?\\*/|//[^\n]*|\"(?:\\\\.|[^\"\\\\])*\"|'(?:\\\\.|[^'\\\\])+'", Pattern.DOTALL);

    private static boolean isText(String part) {
        return part.startsWith("\"") || part.startsWith("'");
    }

    private static String withoutRemarks(String source) {
        return APART.matcher(source).replaceAll(found -> Matcher.quoteReplacement(isText(found.group()) ? found.group()
                : found.group().replaceAll("[^\n]", " ")));
    }

    /** The code without remarks and without what stands in its texts. */
    private static String bare(String source) {
        return APART.matcher(source).replaceAll(found -> Matcher.quoteReplacement(found.group().startsWith("\"") ? "\"\""
                : found.group().startsWith("'") ? "'x'" : found.group().replaceAll("[^\n]", " ")));
    }

    /** At most some sixty lines, and seven parameters; no private one bears the name of a public one. */
    private static void methods(String code) {
        Pattern head = Pattern.compile("^(    |        )(public |private |static |final )*[\\w\\[\\]]+ (\\w+)\\(([^)]*)\\) \\{$");
        String faces = " feed cut load fault objects go down up here letter size data count pages page show glyph insert delete"
                + " move turn contents info whole more outs out sum take PaperHouse ";
        String[] lines = code.split("\n");
        for (int i = 0; i < lines.length; i++) {
            Matcher matcher = head.matcher(lines[i]);
            if (!matcher.find()) {
                continue;
            }
            int last = i;
            while (last + 1 < lines.length && !lines[last].equals(matcher.group(1) + "}")) {
                last++;
            }
            String name = matcher.group(3);
            boolean isFaces = faces.contains(" " + name + " ");
            boolean misnamed = lines[i].startsWith("    public ") && !isFaces || lines[i].contains("private ") && isFaces;
            if (last - i + 1 > 65 || matcher.group(4).split(",").length > 7 || misnamed) {
                wrong++;
                System.out.println("line " + (i + 1) + ": " + name);
            }
        }
    }
}
