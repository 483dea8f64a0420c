import java.lang.reflect.Method;
import java.lang.reflect.Modifier;
import java.nio.file.DirectoryStream;
import java.nio.file.Files;
import java.nio.file.Path;
import java.util.regex.Matcher;
import java.util.regex.Pattern;

/** README.md tells what is so: the answers of its example, every call and clause, every test. */
public final class ReadmeTest {
    private static final Checks C = new Checks();

    public static void main(String[] args) throws Exception {
        String page = Files.readString(Path.of("README.md"));
        example(page);
        for (Method method : PerilSeat.class.getDeclaredMethods()) {
            if (Modifier.isPublic(method.getModifiers())) {
                int parameters = parametersTold(page, method.getName());
                C.due("parameters told of " + method.getName(), parameters, method.getParameterCount());
            }
        }
        clauses(page);
        try (DirectoryStream<Path> tests = Files.newDirectoryStream(Path.of("src/test/java"), "*Test.java")) {
            for (Path test : tests) {
                String name = test.getFileName().toString().replace(".java", "");
                C.due(name + " is listed", page.contains("\n| " + name + " |") ? 1 : 0, 1);
            }
        }
        C.end();
    }

    /** Each line of the example that tells an answer is asked, in their order, of one object. */
    private static void example(String page) throws Exception {
        Matcher text = Pattern.compile("String text = \"([^\"]*)\";").matcher(page);
        PerilSeat x = new PerilSeat();
        Checks.write(x, text.find() ? text.group(1) : "");
        Matcher line = Pattern.compile("(?m)^x\\.(\\w+)\\(([0-9, ]*)\\); +// (-?\\d+)\\b").matcher(page);
        int asked = 0;
        while (line.find()) {
            asked++;
            String[] numbers = line.group(2).isEmpty() ? new String[0] : line.group(2).split(", ");
            C.due("the example's " + line.group(1), ask(x, line.group(1), numbers), Long.parseLong(line.group(3)));
        }
        C.due("the example's calls are found", asked >= 5 ? 1 : 0, 1);
    }

    private static long ask(PerilSeat x, String call, String[] numbers) throws Exception {
        Object[] values = new Object[numbers.length];
        for (int i = 0; i < numbers.length; i++) {
            values[i] = Integer.valueOf(numbers[i]);
        }
        for (Method method : PerilSeat.class.getDeclaredMethods()) {
            if (Modifier.isPublic(method.getModifiers()) && method.getName().equals(call)) {
                return ((Number) method.invoke(x, values)).longValue();
            }
        }
        throw new IllegalArgumentException("no such call: " + call);
    }

    /** How many parameters the page's list gives a call; -1 if it is not in it. */
    private static int parametersTold(String page, String call) {
        Matcher told = Pattern.compile("(?m)^\\| .*?`" + call + "\\(([^)]*)\\)`").matcher(page);
        if (!told.find()) {
            return -1;
        }
        return told.group(1).isEmpty() ? 0 : told.group(1).split(",").length;
    }

    /** Every clause of the list, with numbers in place of its capital letters, can be told behind a table and two. */
    private static void clauses(String page) {
        Matcher clause = Pattern.compile("`([a-z]+(?: [NSRHABD])*)`").matcher(page.substring(page.indexOf("| clause |"),
            page.indexOf("| call |")));
        int found = 0;
        while (clause.find()) {
            found++;
            PerilSeat x = Checks.told("table 5;knight 1 2;knight 3 4");
            Checks.write(x, clause.group(1).replace('N', '8').replaceAll("[SRHAD]", "0").replace('B', '1'));
            C.due("fault of " + clause.group(1), x.fault(), PerilSeat.NONE);
        }
        C.due("clauses found", found, 12);
    }
}
