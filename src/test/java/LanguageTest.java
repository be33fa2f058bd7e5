import java.io.IOException;
import java.nio.file.Files;
import java.nio.file.Path;
import java.util.Arrays;
import java.util.List;
import java.util.regex.Matcher;
import java.util.regex.Pattern;

/**
 * Those rules of ../shared/LANGUAGE.md that the text of the program shows. It is a guard against a
 * slip, no proof: what the words alone do not tell is left to the reader.
 */
public final class LanguageTest {
    private static final String PROGRAM = "src/main/java/SpillQueue.java";
    private static final int MOST_LINES = 60;
    private static final int MOST_PARAMETERS = 7;
    private static final int MOST_CLASSES = 12;
    private static final Check C = new Check();

    public static void main(String[] args) throws IOException {
        String code = withoutCommentsAndTexts(Files.readString(Path.of(PROGRAM)));
        importsAreDue(code);
        noForbiddenWord(code);
        exceptionsAreDue(code);
        libraryIsDue(code);
        staticFieldsAreFinal(code);
        methodsAreShort(code);
        C.due("classes within the limit", count(code, "\\b(class|record|enum|interface) \\w+")
                <= MOST_CLASSES ? 1 : 0, 1);
        C.end();
    }

    /** Line breaks stay, so that lines can be counted. */
    private static String withoutCommentsAndTexts(String source) {
        Pattern skipped = Pattern.compile("/\\*.*?\\*/|//[^\n]*|\"[^\"\n]*\"", Pattern.DOTALL);
        return skipped.matcher(source).replaceAll(m ->
                m.group().startsWith("\"") ? "TEXT" : m.group().replaceAll("[^\n]", ""));
    }

    private static int count(String code, String pattern) {
        return (int) Pattern.compile(pattern).matcher(code).results().count();
    }

    private static void importsAreDue(String code) {
        Matcher m = Pattern.compile("\\bimport ([^;]*);").matcher(code);
        while (m.find()) {
            if (!m.group(1).equals("java.util.Arrays")) {
                C.say("import " + m.group(1));
            }
        }
        C.due("package lines", count(code, "(?m)^package "), 0);
    }

    /** Of rules 1, 2, 4, 5, 6 and 13. */
    private static void noForbiddenWord(String code) {
        String[] words = {"->", "::", "\\bfinally\\b", "\\bcatch\\b", "\\bsynchronized\\b",
            "\\bassert\\b", "\\bprotected\\b", "\\bvolatile\\b", "\\bnative\\b", "\\bvar\\b",
            "Exact\\(", "\\bstatic \\{", "\\bSystem\\.(?!arraycopy\\()", "\\bThread\\b",
            "\\bequals\\(", "\\bhashCode\\(", "\\btoString\\(", "\\bdouble\\b", "\\bfloat\\b",
            "\\binstanceof\\b", "\\byield\\b"};
        for (String word : words) {
            C.due("how often " + word, count(code, word), 0);
        }
    }

    /** Of rule 6: only a throw of a new exception, with a written text or none. */
    private static void exceptionsAreDue(String code) {
        String allowed = "\\bthrow new (IllegalStateException|IllegalArgumentException"
                + "|IndexOutOfBoundsException)\\((TEXT)?\\);";
        C.due("throws that are not as rule 6 has them",
                count(code, "\\bthrow\\b") - count(code, allowed), 0);
    }

    /** Of rule 4: what the program calls of Arrays and Math. */
    private static void libraryIsDue(String code) {
        List<String> allowed = Arrays.asList("Arrays.fill(", "Math.min(", "Math.max(");
        Matcher m = Pattern.compile("\\b(Arrays|Math|Integer|Long|List|String)\\.\\w+\\(?")
                .matcher(code);
        while (m.find()) {
            if (!allowed.contains(m.group())) {
                C.say("the library's " + m.group());
            }
        }
    }

    /** Of rule 5. */
    private static void staticFieldsAreFinal(String code) {
        Matcher m = Pattern.compile("(?m)^.*\\bstatic\\b.*$").matcher(code);
        while (m.find()) {
            String line = m.group();
            boolean isClass = line.contains(" class ");
            boolean isConstant = line.contains("private static final int ");
            if (!isClass && !isConstant) {
                C.say("static, and no class and no constant: " + line.trim());
            }
        }
    }

    /** Of rule 11. A method ends where its closing brace is as deep as its first line. */
    private static void methodsAreShort(String code) {
        Pattern head = Pattern.compile("(?m)^( +)(?:(?:public|private|abstract|static|final) )*"
                + "[\\w\\[\\]]+ (\\w+)\\(([^)]*)\\)[^;{]*\\{$");
        Matcher m = head.matcher(code);
        int found = 0;
        while (m.find()) {
            if (m.group().contains(" new ") || m.group().trim().startsWith("else")) {
                continue;
            }
            found++;
            String rest = code.substring(m.end());
            int end = rest.indexOf("\n" + m.group(1) + "}");
            int lines = count(rest.substring(0, Math.max(end, 0)), "\n") + 1;
            if (end < 0 || lines > MOST_LINES) {
                C.say(m.group(2) + "() has " + lines + " lines");
            }
            if (m.group(3).split(",").length > MOST_PARAMETERS) {
                C.say(m.group(2) + "() has too many parameters");
            }
        }
        C.due("methods are found", found > 60 ? 1 : 0, 1);
    }
}
