import java.nio.file.Files;
import java.nio.file.Path;
import java.util.List;
import java.util.regex.Matcher;
import java.util.regex.Pattern;

/** What can be read off the source of the rules of LANGUAGE.md. */
public final class RulesTest {
    private static final Check CHECK = new Check();
    private static final List<String> WORDS = List.of("throw", "throws", "try", "catch", "finally", "synchronized", "assert",
        "package", "protected", "volatile", "native", "transient", "strictfp", "extends", "var", "System\\.(?!arraycopy)\\w+",
        "Exact", "Random", "Thread", "Object", "equals", "hashCode", "toString", "double", "float");
    private static final String PUBLIC = "write|wipe|fault|lay|minute|known|watcher|where|begin|over|undo|judge|plan|at|most|understand|"
        + "soonest|ask|fair|mean|sure|fits|matters|night|keep|back|count";
    private static final Pattern METHOD = Pattern.compile("^ +(?:public |private |static )*(?:\\w+(?:\\[\\])? )?(\\w+)\\(([^()]*)\\) \\{$");

    public static void main(String[] args) throws Exception {
        Path file = Path.of(args.length > 0 ? args[0] : ".", "src/main/java/OverAndBack.java");
        String source = Files.readString(file);
        String code = source.replaceAll("(?s)/\\*.*?\\*/", "").replaceAll("//[^\n]*", "");
        words(code);
        imports(code);
        statics(code);
        methods(code);
        CHECK.due("signs beyond ASCII", source.chars().filter(c -> c > 126).count(), 0);
        CHECK.end();
    }

    private static int times(String pattern, String code) {
        Matcher m = Pattern.compile(pattern).matcher(code);
        int found = 0;
        while (m.find()) {
            found++;
        }
        return found;
    }

    private static void words(String code) {
        for (String word : WORDS) {
            CHECK.due("the word " + word, times("\\b" + word + "\\b", code), 0);
        }
        CHECK.due("lambdas or arrows", times("->", code), 0);
        CHECK.due("method references", times("::", code), 0);
        CHECK.due("public classes", times("public final class", code), 1);
        CHECK.due("static blocks", times("static \\{", code), 0);
        CHECK.due("classes, some twelve at most", times("\\bclass \\w+", code) <= 12 ? 1 : 0, 1);
    }

    private static void imports(String code) {
        CHECK.due("imports", times("import ", code), times("import java\\.util\\.(Arrays|ArrayList|List|Iterator);", code));
    }

    private static void statics(String code) {
        int fields = times("static [^(;={]*(=|;)", code);
        CHECK.due("static fields are final", fields, times("static final (int|long|boolean|char|String) [^(;={]*=", code));
    }

    private static void methods(String code) {
        String[] lines = code.split("\n");
        for (int k = 0; k < lines.length; k++) {
            Matcher m = METHOD.matcher(lines[k]);
            if (!m.matches() || List.of("if", "for", "while", "switch").contains(m.group(1))) {
                continue;
            }
            String name = m.group(1);
            int parameters = m.group(2).isBlank() ? 0 : m.group(2).split(",").length;
            CHECK.due(name + " has seven parameters at most", parameters <= 7 ? 1 : 0, 1);
            boolean isPublic = lines[k].contains("public ");
            CHECK.due(name + " bears no public name", !isPublic && name.matches(PUBLIC) ? 1 : 0, 0);
            String indent = lines[k].replaceAll("\\S.*", "");
            int end = k;
            while (end < lines.length && !lines[end].equals(indent + "}")) {
                end++;
            }
            CHECK.due(name + " is short", end - k <= 60 ? 1 : 0, 1);
        }
    }
}
