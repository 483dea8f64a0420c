import java.nio.file.Files;
import java.nio.file.Path;
import java.util.regex.Matcher;
import java.util.regex.Pattern;

/** The rules of LANGUAGE.md that can be seen in the letters of the source. */
public final class LanguageTest {
    private static final String[] FORBIDDEN = {
        "\\b(throw|throws|try|catch|finally|synchronized|assert|volatile|native|transient|goto)\\b",
        "\\b(import|package|var|super)\\b", "->", "::", "@", "\\bstatic\\s*\\{", "\\bNaN\\b",
        "\\bSystem\\b(?!\\.arraycopy)", "\\bThread\\b", "\\bRandom\\b", "\\bObject\\b", "\\bClass\\b",
        "\\b(equals|hashCode|toString|getClass)\\s*\\(", "Exact\\b", "\\bwhile\\s*\\(\\s*true", "for\\s*\\(\\s*;",
    };

    public static void main(String[] args) throws Exception {
        Checks c = new Checks();
        String source = Files.readString(Path.of("src/main/java/PerilSeat.java"));
        for (int i = 0; i < source.length(); i++) {
            if (source.charAt(i) > 127) {
                c.due("sign " + (int) source.charAt(i) + " at " + i, 1, 0);
            }
        }
        String code = source.replaceAll("(?s)/\\*.*?\\*/", "").replaceAll("//[^\n]*", "");
        for (String forbidden : FORBIDDEN) {
            Matcher m = Pattern.compile(forbidden).matcher(code);
            c.due("found " + (m.find() ? m.group() : ""), m.reset().find() ? 1 : 0, 0);
        }
        Matcher fields = Pattern.compile("(?m)^ +(public |private )?static (?!final )[^(]*;").matcher(code);
        c.due("a static field that is not final", fields.find() ? 1 : 0, 0);
        Matcher classes = Pattern.compile("\\b(class|enum|record|interface) [A-Z]").matcher(code);
        int count = 0;
        while (classes.find()) {
            count++;
        }
        c.due("classes, at most twelve: " + count, count <= 12 ? 1 : 0, 1);
        methods(c, code);
        c.end();
    }

    /** Methods stay under sixty lines and have at most seven parameters. */
    private static void methods(Checks c, String code) {
        Matcher heads = Pattern.compile("(?m)^( +)(?:[a-z]+ )*[A-Za-z\\[\\]]+ [a-z][A-Za-z]*\\(([^)]*)\\) \\{$").matcher(code);
        int found = 0;
        while (heads.find()) {
            found++;
            int end = code.indexOf("\n" + heads.group(1) + "}", heads.end());
            long lines = code.substring(heads.start(), end).lines().count() + 1;
            c.due("lines of " + heads.group().trim() + ": " + lines, lines <= 60 ? 1 : 0, 1);
            int parameters = heads.group(2).isEmpty() ? 0 : heads.group(2).split(",").length;
            c.due("parameters of " + heads.group().trim(), parameters <= 7 ? 1 : 0, 1);
        }
        c.due("methods were found", found > 50 ? 1 : 0, 1);
    }
}
