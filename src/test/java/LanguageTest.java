import java.io.IOException;
import java.nio.file.Files;
import java.nio.file.Path;
import java.util.HashSet;
import java.util.List;
import java.util.Set;
import java.util.regex.Matcher;
import java.util.regex.Pattern;

/** Those rules of LANGUAGE.md that can be seen from single lines of the source. */
public final class LanguageTest {
    private static final Check CHECK = new Check("LanguageTest");
    private static final List<String> FORBIDDEN = List.of(
        "\\bimport\\b", "\\bpackage\\b", "->", "::", "\\bfinally\\b", "\\bsynchronized\\b", "\\bassert\\b", "\\bcatch\\b",
        "\\w+Exact\\b", "\\bhashCode\\b", "\\bequals\\b", "\\btoString\\b", "\\bSystem\\b", "\\bRandom\\b", "\\bThread\\b",
        "\\bprotected\\b", "\\bfloat\\b", "\\bdouble\\b", "\" *\\+", "\\+ *\"", "static \\{", "[^\\x00-\\x7f]");

    public static void main(String[] args) throws IOException {
        String source = Files.readString(Path.of("src/main/java/Marionette.java"));
        String code = source.replaceAll("(?s)/\\*.*?\\*/", "").replaceAll("//[^\n]*", "");
        for (String each : FORBIDDEN) {
            Matcher found = Pattern.compile(each).matcher(code);
            CHECK.compare(each, "", found.find() ? found.group() : "");
        }
        nothingIsOpenButTheFace(code);
        noPrivateMethodHasANameOfTheFace(code);
        methodsAreShort(source);
        CHECK.end();
    }

    private static void nothingIsOpenButTheFace(String code) {
        for (String line : code.split("\n")) {
            boolean member = line.matches(" {4}[a-zA-Z].*[;{]") && !line.startsWith("    }");
            if (member) {
                CHECK.yes(line.trim() + " is public or private", line.matches(" {4}(public|private) .*"));
            }
            if (line.matches(".*\\bstatic\\b.*=.*;") || line.matches(".*\\bstatic\\b[^(]*;")) {
                CHECK.yes(line.trim() + " is final", line.contains(" final "));
            }
        }
    }

    private static void noPrivateMethodHasANameOfTheFace(String code) {
        Set<String> face = names(code, "public (?:static )?[\\w\\[\\]]+ (\\w+)\\(");
        CHECK.same("calls of the face", 39, face::size);
        for (String name : names(code, "private (?:static )?[\\w\\[\\]]+ (\\w+)\\(")) {
            CHECK.no(name + " is private and of the face", face.contains(name));
        }
    }

    private static Set<String> names(String code, String pattern) {
        Set<String> names = new HashSet<>();
        Matcher found = Pattern.compile(pattern).matcher(code);
        while (found.find()) {
            names.add(found.group(1));
        }
        return names;
    }

    private static void methodsAreShort(String source) {
        String[] lines = source.split("\n");
        int begin = 0;
        for (int i = 0; i < lines.length; i++) {
            if (lines[i].matches(" {4}( {4})?\\S.*\\) ?(throws .*)?\\{")) {
                begin = i;
            }
            if (lines[i].matches(" {4}( {4})?\\}") && i - begin > 60 && !lines[i].equals("    }")) {
                CHECK.compare("method at line " + (begin + 1), "at most 60 lines", (i - begin) + " lines");
            }
        }
    }
}
