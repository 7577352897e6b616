import java.io.IOException;
import java.nio.file.Files;
import java.nio.file.Path;
import java.util.regex.Matcher;
import java.util.regex.Pattern;

/** The rules of LANGUAGE.md that a look at the source can tell. */
public final class LanguageTest {
    private static final String[] NEVER = {
        "\\bthrow\\b", "\\bthrows\\b", "\\btry\\b", "\\bcatch\\b", "\\bsynchronized\\b", "\\bassert\\b", "->", "::",
        "^package\\b", "\\bprotected\\b", "static \\{", "Exact\\(", "\\bvar\\b", "\\bSystem\\.(?!arraycopy)", "Random",
        "\\bObject\\b", "\\[\\]\\[\\]", "\\b(Integer|Long)\\.",
    };

    public static void main(String[] args) throws IOException {
        String source = Files.readString(Path.of("src/main/java/HearingDesk.java"));
        String code = source.replaceAll("(?s)/\\*.*?\\*/", "").replaceAll("//[^\n]*", "").replaceAll("\"[^\"\n]*\"", "\"\"");
        for (String never : NEVER) {
            Due.is("source has " + never, Pattern.compile(never, Pattern.MULTILINE).matcher(code).find(), false);
        }
        Matcher imports = Pattern.compile("^import (.*);", Pattern.MULTILINE).matcher(code);
        while (imports.find()) {
            Due.is("import " + imports.group(1), imports.group(1).matches("java\\.util\\.(ArrayList|List|Arrays)"), true);
        }
        Matcher classes = Pattern.compile("\\b(class|record|enum|interface) \\w+").matcher(code);
        int many = 0;
        while (classes.find()) {
            many++;
        }
        Due.is("at most twelve classes", many <= 12, true);
        checkMethods(source.split("\n"));
        Due.end();
    }

    /** A method's line ends with ") {" and does not start with a keyword of a statement. */
    private static void checkMethods(String[] lines) {
        Pattern head = Pattern.compile("^( ++)(?!if|for|while|switch|\\}|return)[\\w<>\\[\\] ]+\\((.*)\\) \\{$");
        for (int i = 0; i < lines.length; i++) {
            Matcher m = head.matcher(lines[i]);
            if (m.find()) {
                int end = i;
                while (end < lines.length && !lines[end].equals(m.group(1) + "}")) {
                    end++;
                }
                Due.is("long method: " + lines[i].trim(), end - i > 60, false);
                Due.is("seven parameters: " + lines[i].trim(), m.group(2).split(",").length > 7, false);
            }
        }
    }
}
