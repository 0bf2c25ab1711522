import java.io.File;
import java.io.IOException;
import java.lang.reflect.Method;
import java.nio.file.Files;
import java.nio.file.Path;
import java.util.HashMap;
import java.util.Map;
import java.util.regex.Matcher;
import java.util.regex.Pattern;

/** README.md: its examples answer what they say, and it names every call, constant and test. */
final class ReadmeTest {
    private static final Pattern MADE = Pattern.compile("HookHours (\\w+) = new HookHours\\(\\);");
    private static final Pattern TYPED
        = Pattern.compile("for \\(char sign : \"([^\"]*)\"\\.toCharArray\\(\\)\\) (\\w+)\\.type\\(sign\\);");
    private static final Pattern CALLED = Pattern.compile("(\\w+)\\.(\\w+)\\((.*)\\); +// (-?\\d+): .+");
    private static final Pattern PROMISED = Pattern.compile("`int (\\w+)\\((.*)\\)`: ");
    private static final Pattern CONSTANT = Pattern.compile("`([A-Z_]+) = (-\\d)`: ");
    private static final Due due = new Due();

    private static final Map<String, HookHours> objects = new HashMap<>();

    public static void main(String[] args) throws Exception {
        due.part("README.md");
        String readme = Files.readString(Path.of("README.md"));
        due.is("calls of the examples", examples(readme), 20);
        callsAndConstants(readme, Files.readString(Path.of("../shared/DOC.md")));
        tests(readme);
        due.end();
    }

    /** Makes the calls of all examples; answers how many tell what they answer. */
    private static int examples(String readme) throws ReflectiveOperationException {
        int calls = 0;
        Matcher block = Pattern.compile("(?s)```java\n(.*?)```").matcher(readme);
        while (block.find()) {
            for (String line : block.group(1).split("\n")) {
                calls += step(line) ? 1 : 0;
            }
        }
        return calls;
    }

    private static boolean step(String line) throws ReflectiveOperationException {
        Matcher made = MADE.matcher(line);
        Matcher typed = TYPED.matcher(line);
        Matcher called = CALLED.matcher(line);
        if (made.matches()) {
            objects.put(made.group(1), new HookHours());
        } else if (typed.matches()) {
            typed.group(1).chars().forEach(sign -> objects.get(typed.group(2)).type((char) sign));
        } else if (called.matches()) {
            int got = answer(objects.get(called.group(1)), called.group(2), called.group(3));
            due.is(line, got, Integer.parseInt(called.group(4)));
            return true;
        } else {
            due.holds("a line of the examples is understood: " + line, false);
        }
        return false;
    }

    private static int answer(HookHours x, String name, String list) throws ReflectiveOperationException {
        Object[] values = new Object[list.isEmpty() ? 0 : list.split(", ").length];
        for (int i = 0; i < values.length; i++) {
            String value = list.split(", ")[i];
            values[i] = value.startsWith("'") ? (Object) value.charAt(1) : (Object) Integer.parseInt(value);
        }
        for (Method method : HookHours.class.getMethods()) {
            if (method.getName().equals(name) && method.getParameterCount() == values.length) {
                return (int) method.invoke(x, values);
            }
        }
        due.holds("there is a method " + name, false);
        return 0;
    }

    private static void callsAndConstants(String readme, String document) {
        int calls = 0;
        Matcher promised = PROMISED.matcher(document);
        while (promised.find()) {
            String call = promised.group(1) + "(" + promised.group(2).replaceAll("(int|char) ", "") + ")";
            due.holds("it names " + call, readme.contains("| `" + call + "` |"));
            calls++;
        }
        due.is("calls of the document", calls, 22);
        int constants = 0;
        Matcher constant = CONSTANT.matcher(document);
        while (constant.find()) {
            String row = "| `" + constant.group(1) + "` | " + constant.group(2) + " |";
            due.holds("it has the row " + row, readme.contains(row));
            constants++;
        }
        due.is("constants of the document", constants, 6);
    }

    private static void tests(String readme) throws IOException {
        due.holds("it tells of .ci/run", readme.contains("\n    .ci/run\n"));
        for (File file : new File("src/test/java").listFiles()) {
            String name = file.getName().replace(".java", "");
            due.holds("it names " + name, !name.endsWith("Test") || readme.contains("| `" + name + "` |"));
        }
    }
}
