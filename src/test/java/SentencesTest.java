import java.io.IOException;
import java.nio.file.DirectoryStream;
import java.nio.file.Files;
import java.nio.file.Path;
import java.util.regex.Matcher;
import java.util.regex.Pattern;

/** No sentence of the document is left without a test: the tests tell, in its words, which ones they test. */
public final class SentencesTest {
    private static final Pattern QUOTED = Pattern.compile("\\bsentence\\((\\d+), ((?:\"[^\"]*\"(?:\\s*\\+\\s*)?)+)\\)");
    private static final Pattern PROMISE = Pattern.compile("(?s)## Promise (\\d+): \\w[\\w ]*\n\n`[^`]*`: (.*?)\n(?=\n##)");
    private static final Checks C = new Checks();

    public static void main(String[] args) throws IOException {
        String document = Files.readString(Path.of("../shared/DOC.md")) + "\n";
        String[] sections = new String[29];
        sections[0] = ahead(document);
        Matcher promise = PROMISE.matcher(document);
        while (promise.find()) {
            sections[Integer.parseInt(promise.group(1))] = folded(promise.group(2));
        }
        boolean[][] tested = new boolean[29][];
        for (int i = 0; i < sections.length; i++) {
            C.due("promise " + i + " found", sections[i] == null ? 0 : 1, 1);
            tested[i] = new boolean[sections[i].length()];
        }
        try (DirectoryStream<Path> tests = Files.newDirectoryStream(Path.of("src/test/java"), "*Test.java")) {
            for (Path test : tests) {
                markQuoted(Files.readString(test), sections, tested);
            }
        }
        for (int i = 0; i < sections.length; i++) {
            C.due("not tested of promise " + i, left(sections[i], tested[i]), "");
        }
        C.end();
    }

    /** What the document says ahead of the promises, but for its summary, its face and what only sets it in parts. */
    private static String ahead(String document) {
        int seats = document.indexOf("SEATS are 0 .. n less 1");
        int face = document.indexOf("## The public face");
        int terms = document.indexOf("## Terms") + "## Terms".length();
        int groups = document.indexOf("Ahead of the calls");
        String all = document.substring(seats, face) + document.substring(terms, groups);
        return folded(all.replace("```text", "").replace("```", "").replaceAll("={8} \\d", ""));
    }

    private static String folded(String text) {
        return text.replaceAll("\\s+", " ").trim();
    }

    private static void markQuoted(String source, String[] sections, boolean[][] tested) {
        Matcher quoted = QUOTED.matcher(source);
        while (quoted.find()) {
            int promise = Integer.parseInt(quoted.group(1));
            String words = folded(quoted.group(2).replaceAll("\"\\s*\\+\\s*\"", "").replace("\"", ""));
            int found = 0;
            for (int at = sections[promise].indexOf(words); at >= 0; at = sections[promise].indexOf(words, at + 1)) {
                found++;
                java.util.Arrays.fill(tested[promise], at, at + words.length(), true);
            }
            C.due("in promise " + promise + ", \"" + words + "\" is found", found > 0 ? 1 : 0, 1);
        }
    }

    /** The words that no test has quoted. */
    private static String left(String section, boolean[] tested) {
        StringBuilder left = new StringBuilder();
        for (int i = 0; i < section.length(); i++) {
            left.append(tested[i] ? ' ' : section.charAt(i));
        }
        // Signs between two parts of a sentence say nothing by themselves.
        return folded(left.toString().replaceAll("(?<= |^)[;:,.)]+(?= |$)", ""));
    }
}
