import java.io.IOException;
import java.nio.file.Files;
import java.nio.file.Path;
import java.util.HashSet;
import java.util.List;
import java.util.Set;
import java.util.regex.Matcher;
import java.util.regex.Pattern;

/** The rules of LANGUAGE.md: those of single lines are looked for here, those of types and calls by SourceRules. */
public final class LanguageTest {
    private static final Check CHECK = new Check("LanguageTest");
    private static final Path SOURCE = Path.of("src/main/java/Marionette.java");
    private static final Path DOCUMENT = Path.of("../shared/DOC.md");
    private static final List<String> FORBIDDEN = List.of(
        "\\bimport\\b", "\\bpackage\\b", "->", "::", "\\bfinally\\b", "\\bsynchronized\\b", "\\bassert\\b", "\\bcatch\\b",
        "\\w+Exact\\b", "\\bhashCode\\b", "\\bequals\\b", "\\btoString\\b", "\\bSystem\\b", "\\bRandom\\b", "\\bThread\\b",
        "\\bprotected\\b", "\\bfloat\\b", "\\bdouble\\b", "\" *\\+", "\\+ *\"", "static \\{", "[^\\x00-\\x7f]");

    public static void main(String[] args) throws IOException {
        String code = Files.readString(SOURCE).replaceAll("(?s)/\\*.*?\\*/", "").replaceAll("//[^\n]*", "");
        for (String each : FORBIDDEN) {
            Matcher found = Pattern.compile(each).matcher(code);
            CHECK.compare(each, "", found.find() ? found.group() : "");
        }
        nothingIsOpenButTheFace(code);
        noPrivateMethodHasANameOfTheFace(code);
        SourceRules.look(CHECK, SOURCE);
        theFaceIsThatOfTheDocument(code);
        CHECK.end();
    }

    private static void nothingIsOpenButTheFace(String code) {
        for (String line : code.split("\n")) {
            boolean member = line.matches(" {4}[a-zA-Z].*[;{]") && !line.startsWith("    }");
            if (member) {
                CHECK.yes(line.trim() + " is public or private", line.matches(" {4}(public|private) .*"));
            }
            if (line.matches(".*\\bstatic\\b.*=.*;") || line.matches(".*\\bstatic\\b[^(]*;")) {
                CHECK.yes(line.trim() + " is final", line.contains(" final "));
            }
        }
    }

    private static void noPrivateMethodHasANameOfTheFace(String code) {
        Set<String> face = names(code, "public (?:static )?[\\w\\[\\]]+ (\\w+)\\(");
        CHECK.same("calls of the face", 39, face::size);
        for (String name : names(code, "private (?:static )?[\\w\\[\\]]+ (\\w+)\\(")) {
            CHECK.no(name + " is private and of the face", face.contains(name));
        }
    }

    private static Set<String> names(String code, String pattern) {
        Set<String> names = new HashSet<>();
        Matcher found = Pattern.compile(pattern).matcher(code);
        while (found.find()) {
            names.add(found.group(1));
        }
        return names;
    }

    /** The head of each call stands in the class as in the document, its exceptions in the same order. */
    private static void theFaceIsThatOfTheDocument(String code) throws IOException {
        if (!Files.exists(DOCUMENT)) {
            System.out.println("no " + DOCUMENT + ": whether the face is that of the document is not looked at");
            return;
        }
        String plain = code.replaceAll("\\s+", " ");
        int heads = 0;
        for (String line : Files.readAllLines(DOCUMENT)) {
            if (line.startsWith("    public ")) {
                heads++;
                String head = line.trim().replace(";", " {");
                CHECK.yes("the class has: " + head, plain.contains(head));
            }
        }
        CHECK.compare("heads of the face in the document", "40", Integer.toString(heads));
    }
}
