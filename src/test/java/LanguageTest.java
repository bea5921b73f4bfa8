import java.nio.file.Files;
import java.nio.file.Path;
import java.util.List;
import java.util.regex.Matcher;
import java.util.regex.Pattern;

/** What of LANGUAGE.md can be seen from the words of the source. The path of the source is its argument. */
public final class LanguageTest {
    private static final List<String> RULED_OUT = List.of(
        "throw", "throws", "try", "catch", "finally", "synchronized", "assert", "package", "protected", "native",
        "volatile", "Object", "System\\.(?!arraycopy)\\w+", "\\w+Exact", "hashCode", "toString", "Random", "Thread");

    public static void main(String[] args) throws Exception {
        Due due = new Due("language");
        String source = Files.readString(Path.of(args.length > 0 ? args[0] : "src/main/java/StepBudgets.java"));
        String code = source.replaceAll("(?s)/\\*.*?\\*/", "").replaceAll("//[^\n]*", "");
        for (String word : RULED_OUT) {
            due.is("rule 6: " + word, count(code, "\\b" + word + "\\b"), 0);
        }
        due.is("rule 2: lambdas and method references", count(code, "->|::"), 0);
        due.is("rule 4: imports", count(code, "\\bimport (?!java\\.util\\.(ArrayList|Arrays);)"), 0);
        due.is("rule 5: static fields that are not final",
            count(code, "\\bstatic (?!final\\b)[\\w<>\\[\\]]+ \\w+ *[=;]"), 0);
        due.is("rule 1: public members", count(code, "\\bpublic\\b"), 12);
        for (String name : List.of("act", "guard", "clean", "clear", "reserve", "run", "latest", "cleaned", "told")) {
            due.is("rule 1: methods named " + name, count(code, "\\b\\w+ " + name + "\\([^)]*\\) \\{"), 1);
        }
        due.is("rule 9: while and do", count(code, "\\b(while|do)\\b"), 0);
        due.is("rule 11: more than seven parameters", count(code, "\\((int \\w+, ){7}"), 0);
        due.is("rule 11: methods of over sixty lines", longMethods(code), 0);
        due.is("rule 11: classes over twelve", Math.max(0, count(code, "\\b(class|record|enum|interface) \\w+") - 12), 0);
        due.end();
    }

    private static int count(String code, String pattern) {
        Matcher matcher = Pattern.compile(pattern).matcher(code);
        int count = 0;
        while (matcher.find()) {
            count++;
        }
        return count;
    }

    private static int longMethods(String code) {
        int found = 0;
        String[] lines = code.split("\n");
        for (int i = 0; i < lines.length; i++) {
            Matcher head = Pattern.compile("^( +).*\\) \\{$").matcher(lines[i]);
            if (head.matches()) {
                String end = head.group(1) + "}";
                int last = i;
                while (last < lines.length && !lines[last].startsWith(end)) {
                    last++;
                }
                found += last - i > 60 ? 1 : 0;
            }
        }
        return found;
    }
}
