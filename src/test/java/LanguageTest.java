import java.io.IOException;
import java.nio.file.Files;
import java.nio.file.Path;
import java.util.regex.Matcher;
import java.util.regex.Pattern;

/* What of ../shared/LANGUAGE.md can be seen in the words of src/main/java/OvenLies.java. */
public final class LanguageTest {
    private static final String[] NOT_THERE = {"\\bthrow(s)?\\b", "\\btry\\b", "\\bcatch\\b", "\\bsynchronized\\b",
        "\\bassert\\b", "->", "::", "\\bimport\\b", "\\bpackage\\b", "\\bException\\b", "Exact\\b", "\\bvar\\b",
        "\\bprotected\\b", "\\binstanceof\\b", "\\bdouble\\b", "\\bfloat\\b", "\\bObject\\b", "\\bSystem\\b",
        "\\bThread\\b", "\\bstatic\\s*\\{", "\\bequals\\b", "\\bhashCode\\b", "\\btoString\\b", "\"\\s*\\+", "\\+\\s*\"",
        "\\bfor\\s*\\(\\s*;", "\\bwhile\\s*\\(\\s*true"};

    private static final String FACE = " OvenLies town lie oven type clear read days says forgets undo of about takes"
        + " then cold few round keep seen which tell note mark forget is look kinds ask arch trues years part image"
        + " from status count digest ";

    private static final Due due = new Due();

    private static String withoutComments(String source) {
        return source.replaceAll("(?s)/\\*.*?\\*/", "").replaceAll("//[^\n]*", "");
    }

    private static void words(String code) {
        for (String pattern : NOT_THERE) {
            due.is("not there: " + pattern, Pattern.compile(pattern).matcher(code).find() ? 1 : 0, 0);
        }
        for (int i = 0; i < code.length(); i++) {
            if (code.charAt(i) > 126) due.is("a sign at " + i, code.charAt(i), 126);
        }
    }

    /* Rules 1 and 11: names, parameters, lengths. */
    private static void methods(String code) {
        Pattern head = Pattern.compile("\n( +)((?:public|private|static|final) )*[A-Za-z]+(?:\\[\\])* ?([a-zA-Z]*)\\(([^()]*)\\) \\{");
        Matcher m = head.matcher(code);
        int open = 0;
        while (m.find()) {
            boolean isPublic = m.group(0).contains("public ");
            String name = m.group(3);
            open += isPublic ? 1 : 0;
            if (!isPublic) due.is("no public name: " + name, FACE.contains(" " + name + " ") ? 1 : 0, 0);
            int commas = m.group(4).replaceAll("[^,]", "").length();
            due.is("seven parameters: " + name, commas <= 6 ? 1 : 0, 1);
            int end = code.indexOf("\n" + m.group(1) + "}", m.end());
            int lines = code.substring(m.start(), end).split("\n").length;
            due.is("sixty lines: " + name, lines <= 60 ? 1 : 0, 1);
        }
        due.is("public methods and the constructor", open, 38);
    }

    /* Rule 5: a static field is final; rule 1: a member is private, but for the face. */
    private static void fields(String code) {
        for (String line : code.split("\n")) {
            if (line.matches(" +(private|public) .*;") && line.contains(" static ")) {
                due.is("final: " + line.trim(), line.contains(" final ") ? 1 : 0, 1);
            }
            if (line.startsWith("    ") && !line.startsWith("     ") && line.matches(".*[;{]")) {
                due.is("private or public: " + line.trim(), line.matches(" +(private|public) .*") ? 1 : 0, 1);
            }
        }
        due.is("classes", code.split("\\bclass\\b").length - 1 <= 12 ? 1 : 0, 1);
    }

    public static void main(String[] args) throws IOException {
        String code = withoutComments(Files.readString(Path.of("src/main/java/OvenLies.java")));
        words(code);
        methods(code);
        fields(code);
        due.end();
    }
}
