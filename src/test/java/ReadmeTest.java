import java.io.IOException;
import java.lang.reflect.Method;
import java.lang.reflect.Modifier;
import java.nio.file.Files;
import java.nio.file.Path;
import java.util.HashMap;
import java.util.List;
import java.util.Map;
import java.util.regex.Matcher;
import java.util.regex.Pattern;

/** README.md: its example answers what it says, its tables have every call and every test. */
public final class ReadmeTest {

    /** 'int red = x.category(colour, 0);   // 0: at the top', or without a name. */
    private static final Pattern LINE = Pattern.compile(
            "(?:int (\\w+) = )?x\\.(\\w+)\\((.*)\\);\\s+// (throws \\w+|true|false|-?\\d+)(:.*)?");
    /** '| `axis(kind)` | what it answers | what it answers where it refuses |' */
    private static final Pattern ROW = Pattern.compile("\\| `(\\w+)\\((.*)\\)` \\| (.+) \\| (.+) \\|");

    private static final Check CHECK = new Check();

    private final DrillCount asked = new DrillCount();
    private final Model model = new Model();
    private final Map<String, Object> names = new HashMap<>();

    public static void main(String[] args) throws IOException {
        List<String> page = Files.readAllLines(Path.of("README.md"));
        new ReadmeTest().example(page);
        calls(page);
        tests(page);
        CHECK.end("ReadmeTest");
    }

    private void example(List<String> page) {
        names.put("true", true);
        names.put("false", false);
        names.put("DrillCount.NONE", DrillCount.NONE);
        int from = page.indexOf("DrillCount x = new DrillCount();");
        CHECK.yes("there is an example", from >= 0);
        int played = 0;
        for (String line : page.subList(from + 1, page.size())) {
            if (line.startsWith("```")) {
                break;
            }
            if (!line.isBlank()) {
                play(line);
                played++;
            }
        }
        CHECK.yes("the example has calls", played > 20);
    }

    private void play(String line) {
        Matcher found = LINE.matcher(line);
        if (!found.matches()) {
            CHECK.note(false, "not a call with its answer: " + line);
            return;
        }
        String list = found.group(3);
        String[] given = list.isEmpty() ? new String[0] : list.split(", ");
        Object[] args = new Object[given.length];
        for (int i = 0; i < given.length; i++) {
            Object named = names.get(given[i]);
            args[i] = named != null ? named : (Object) Integer.valueOf(given[i]);
        }
        Script.Call call = new Script.Call(found.group(2), args);
        String answer = call.on(asked);
        CHECK.note(answer.equals(found.group(4).replace("throws ", "throws.")),
                line + " answered " + answer);
        CHECK.note(answer.equals(call.on(model)), line + " is not what the model answers");
        if (found.group(1) != null) {
            names.put(found.group(1), Integer.valueOf(answer));
        }
    }

    private static void calls(List<String> page) {
        Map<String, Integer> told = new HashMap<>();
        for (String line : page) {
            Matcher row = ROW.matcher(line);
            if (row.matches()) {
                String list = row.group(2);
                told.put(row.group(1), list.isEmpty() ? 0 : list.split(", ").length);
                boolean throwing = row.group(4).startsWith("throws");
                CHECK.yes(row.group(1) + " throws, or does not", throwing
                        == Script.find(DrillCount.class, row.group(1)).getExceptionTypes().length > 0);
            }
        }
        int calls = 0;
        for (Method method : DrillCount.class.getDeclaredMethods()) {
            if (Modifier.isPublic(method.getModifiers())) {
                calls++;
                Integer takes = told.get(method.getName());
                CHECK.yes("the table has " + method, takes != null
                        && takes == method.getParameterCount());
            }
        }
        CHECK.same("calls in the table", told.size(), calls);
    }

    private static void tests(List<String> page) throws IOException {
        String all = String.join("\n", page);
        try (var files = Files.newDirectoryStream(Path.of("src/test/java"), "*Test.java")) {
            for (Path file : files) {
                String name = file.getFileName().toString().replace(".java", "");
                CHECK.yes("the page tells of " + name, all.contains(name));
            }
        }
    }
}
