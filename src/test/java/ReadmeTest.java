import java.io.File;
import java.io.IOException;
import java.lang.reflect.Method;
import java.nio.charset.StandardCharsets;
import java.nio.file.Files;
import java.nio.file.Path;
import java.util.regex.Matcher;
import java.util.regex.Pattern;

/** What README.md says of the use of the class and of its tests holds: its example answers as it tells, its tests are there. */
public final class ReadmeTest {
    private static final Check CHECK = new Check("ReadmeTest");
    private static final Pattern TYPED = Pattern.compile("\"([^\"]*)\"\\.toCharArray");
    private static final Pattern CALL = Pattern.compile("^x\\.(\\w+)\\(([^)]*)\\); *// (-?\\d+)");
    private static final Pattern SIDE_CALL = Pattern.compile("(\\w+)\\(([^)]*)\\) = (-?\\d+)");

    public static void main(String[] args) throws IOException, ReflectiveOperationException {
        String text = Files.readString(Path.of("README.md"), StandardCharsets.UTF_8);
        example(text);
        testsAreNamed(text);
        promisesAreNamed(text);
        CHECK.end();
    }

    private static void example(String text) throws ReflectiveOperationException {
        CHECK.of("How to use it");
        SelfScale x = new SelfScale();
        String block = text.substring(text.indexOf("```java\n") + 8);
        int calls = 0;
        for (String row : block.substring(0, block.indexOf("```")).split("\n")) {
            Matcher typed = TYPED.matcher(row);
            if (typed.find()) {
                Check.type(x, typed.group(1));
            }
            Matcher call = CALL.matcher(row);
            boolean isCall = call.find();
            CHECK.due("a call and its answer in: " + row, row.startsWith("x.") && !isCall ? 1 : 0, 0);
            if (isCall) {
                due(x, call);
                calls++;
                Matcher side = SIDE_CALL.matcher(row.substring(row.indexOf("//")));
                while (side.find()) {
                    due(x, side);
                }
            }
        }
        CHECK.due("calls were seen", calls > 15 ? 1 : 0, 1);
    }

    private static void due(SelfScale x, Matcher call) throws ReflectiveOperationException {
        for (Method method : SelfScale.class.getMethods()) {
            if (method.getName().equals(call.group(1))) {
                String[] numbers = call.group(2).isEmpty() ? new String[0] : call.group(2).split(", ");
                Object[] arguments = new Object[numbers.length];
                for (int k = 0; k < numbers.length; k++) {
                    arguments[k] = Integer.valueOf(numbers[k]);
                }
                Number answer = (Number) method.invoke(x, arguments);
                CHECK.due(call.group(), answer.longValue(), Long.parseLong(call.group(3)));
                return;
            }
        }
        CHECK.due("no such call: " + call.group(), 1, 0);
    }

    private static void testsAreNamed(String text) {
        CHECK.of("How to run its tests");
        File[] files = new File("src/test/java").listFiles();
        for (File file : files == null ? new File[0] : files) {
            String name = file.getName().replace(".java", "");
            boolean isTest = name.endsWith("Test");
            CHECK.due("README names " + name, isTest && !text.contains("`" + name + "`") ? 1 : 0, 0);
        }
        Matcher named = Pattern.compile("`(\\w+Test)`").matcher(text);
        while (named.find()) {
            CHECK.due(named.group(1) + " is there", new File("src/test/java/" + named.group(1) + ".java").isFile() ? 1 : 0, 1);
        }
        CHECK.due(".ci/run is there", new File(".ci/run").canExecute() && text.contains(".ci/run") ? 1 : 0, 1);
    }

    /** The rows of the table tell which promises each test is of: "1 to 5, 22, and .." */
    private static void promisesAreNamed(String text) {
        CHECK.of("By promises");
        boolean[] isNamed = new boolean[24];
        Matcher row = Pattern.compile("(?m)^\\| ((?:\\d+(?: to \\d+)?,? ?(?:and )?)+)").matcher(text);
        while (row.find()) {
            Matcher span = Pattern.compile("(\\d+)(?: to (\\d+))?").matcher(row.group(1));
            while (span.find()) {
                int first = Integer.parseInt(span.group(1));
                int last = span.group(2) == null ? first : Integer.parseInt(span.group(2));
                for (int promise = first; promise <= last && promise < 24; promise++) {
                    isNamed[promise] = true;
                }
            }
        }
        for (int promise = 1; promise < 24; promise++) {
            CHECK.due("promise " + promise, isNamed[promise] ? 1 : 0, 1);
        }
    }
}
