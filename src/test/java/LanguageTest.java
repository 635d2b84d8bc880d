import java.io.IOException;
import java.nio.file.Files;
import java.nio.file.Path;
import java.util.regex.Matcher;
import java.util.regex.Pattern;

/** Looks for what ../shared/LANGUAGE.md rules out, as far as the text of the class alone can tell it. */
public final class LanguageTest {
    private static final String[] WORDS = {"throw", "throws", "try", "catch", "finally", "synchronized", "assert", "instanceof",
        "equals", "hashCode", "toString", "protected", "package", "volatile", "transient", "native", "yield", "var",
        "double", "float", "Object", "Integer", "Exact", "Thread", "System\\.(?!arraycopy)"};

    private static int wrong;

    public static void main(String[] args) throws IOException {
        String source = Files.readString(Path.of("src/main/java/PaperHouse.java"));
        String code = bare(source);
        for (String word : WORDS) {
            tell(code, "\\b" + word + (word.endsWith(")") || word.equals("Exact") ? "" : "\\b"), word);
        }
        tell(code, "->", "a lambda");
        tell(code, "::", "a method reference");
        tell(code, "\"\"\\s*\\+|\\+\\s*\"\"", "texts joined by +");
        tell(source, "[^\\x01-\\x7e]", "a sign beyond 127");
        tell(code, "import (?!java\\.util\\.(Arrays|ArrayList|List|Iterator);)", "an import");
        tell(code, "(?m)^    (?!private|public|}|$|\\s)", "a member that is neither private nor the face's");
        tell(code, "static (?!final)(int|long|byte|boolean|char)(\\[\\])? \\w+( =|;)", "a static field that is not final");
        methods(code);
        System.out.println(wrong == 0 ? "nothing is ruled out" : wrong + " places are ruled out");
        if (wrong != 0) {
            System.exit(1);
        }
    }

    private static void tell(String code, String pattern, String what) {
        Matcher matcher = Pattern.compile(pattern).matcher(code);
        while (matcher.find()) {
            wrong++;
            System.out.println("line " + code.substring(0, matcher.start()).split("\n", -1).length + ": " + what);
        }
    }

    /** The code without remarks and without what stands in its texts. */
    private static String bare(String source) {
        Matcher matcher = Pattern.compile("/\\*.*?\\*/|//[^\n]*|\"(?:\\\\.|[^\"\\\\])*\"|'(?:\\\\.|[^'\\\\])+'", Pattern.DOTALL).matcher(source);
        return matcher.replaceAll(found -> Matcher.quoteReplacement(found.group().startsWith("\"") ? "\"\""
                : found.group().startsWith("'") ? "'x'" : found.group().replaceAll("[^\n]", " ")));
    }

    /** At most sixty lines and seven parameters; none bears the name of a public one. */
    private static void methods(String code) {
        Pattern head = Pattern.compile("^(    |        )(public |private |static |final )*[\\w\\[\\]]+ (\\w+)\\(([^)]*)\\) \\{$");
        String faces = " feed cut load fault objects go down up here letter size data count pages page show glyph insert delete"
                + " move turn contents info whole more outs out sum take ";
        String[] lines = code.split("\n");
        for (int i = 0; i < lines.length; i++) {
            Matcher matcher = head.matcher(lines[i]);
            if (!matcher.find()) {
                continue;
            }
            int last = i;
            while (last + 1 < lines.length && !lines[last].equals(matcher.group(1) + "}")) {
                last++;
            }
            boolean ofFace = lines[i].startsWith("    public");
            String name = matcher.group(3);
            if (last - i + 1 > 60 || matcher.group(4).split(",").length > 7
                    || !ofFace && faces.contains(" " + name + " ")) {
                wrong++;
                System.out.println("line " + (i + 1) + ": " + name);
            }
        }
    }
}
