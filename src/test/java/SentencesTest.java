import java.nio.file.Files;
import java.nio.file.Path;
import java.util.List;
import java.util.regex.Matcher;
import java.util.regex.Pattern;
import java.util.stream.Stream;

/**
 * What the tests quote by Check.says stands in the document, and what the document tells
 * (the ITEMS, the Terms, the promises) is quoted by a test, every word of it.
 */
public final class SentencesTest {
    private static final Check CHECK = new Check();
    private static final Pattern QUOTE = Pattern.compile("CHECK\\.says\\(((?:\\s*\\+?\\s*\"[^\"]*\")+)\\)");

    public static void main(String[] args) throws Exception {
        Path here = Path.of(args.length > 0 ? args[0] : ".");
        Path document = here.resolve("../shared/DOC.md");
        if (!Files.isReadable(document)) {
            System.out.println("there is no " + document + ": nothing can be compared with it");
            return;
        }
        String told = told(Files.readString(document));
        boolean[] quoted = new boolean[told.length()];
        for (Path file : tests(here.resolve("src/test/java"))) {
            Matcher m = QUOTE.matcher(Files.readString(file));
            while (m.find()) {
                String words = m.group(1).replaceAll("\"\\s*\\+\\s*\"", "").replaceAll("^\\s*\"|\"$", "");
                mark(file.getFileName() + " quotes: " + words, told, words, quoted);
            }
        }
        everyWord(told, quoted);
        CHECK.end();
    }

    private static List<Path> tests(Path folder) throws Exception {
        try (Stream<Path> files = Files.list(folder)) {
            return files.filter(f -> f.toString().endsWith("Test.java")).sorted().toList();
        }
    }

    /** The document's words without headings, fences, the face, the story ahead, and what is not promised. */
    private static String told(String document) {
        return document
            .replaceAll("(?s)## Not promised.*", "")
            .replaceAll("(?s)```java.*?```", "")
            .replaceAll("(?s)^.*?======== 1 ", "")
            .replaceAll("(?m)^Ahead of the calls .*$", "")
            .replaceAll("(?m)^(#|```).*$", "")
            .replaceAll("======== \\d", "")
            .replaceAll("\\s+", " ")
            .trim();
    }

    /** A quote is to be found in one place alone, so that it tells which sentence is meant. */
    private static void mark(String name, String told, String words, boolean[] quoted) {
        int place = told.indexOf(words);
        CHECK.due(name + " (places)", place < 0 ? 0 : told.indexOf(words, place + 1) < 0 ? 1 : 2, 1);
        for (int p = Math.max(0, place); p < place + words.length(); p++) {
            quoted[p] = true;
        }
    }

    private static void everyWord(String told, boolean[] quoted) {
        Matcher word = Pattern.compile("\\S*\\w\\S*").matcher(told);
        while (word.find()) {
            boolean isQuoted = true;
            for (int p = word.start(); p < word.end(); p++) {
                isQuoted &= quoted[p] || !Character.isLetterOrDigit(told.charAt(p));
            }
            String around = told.substring(Math.max(0, word.start() - 30), Math.min(told.length(), word.end() + 30));
            CHECK.due("quoted: " + word.group() + " in .." + around + "..", isQuoted ? 1 : 0, 1);
        }
    }
}
