import java.lang.reflect.Method;
import java.net.URL;
import java.net.URLClassLoader;
import java.nio.file.Files;
import java.nio.file.Path;
import java.util.ArrayList;
import java.util.List;
import java.util.regex.Matcher;
import java.util.regex.Pattern;
import javax.tools.ToolProvider;

/** The examples of README.md compile and answer what stands behind them, and its commands do what their calls do. */
public final class GuardRosterReadmeTest extends RosterCalls {
    /** A declaration or nothing, then a call, then its answer up to the comma or the line's end. */
    private static final Pattern TOLD = Pattern.compile("(\\s*)(?:int (\\w+) = )?(.*);\\s+// ([^,]*).*");
    private static final Pattern ROW = Pattern.compile("\\| `([a-z]+ [^`]*)` \\| `([^`]*)` \\|");

    private final List<String> answersDue = new ArrayList<>();
    private final List<String> commands = new ArrayList<>();

    public static void main(String[] args) throws Exception {
        new GuardRosterReadmeTest().run(Files.readString(Path.of("README.md")));
        check.end();
    }

    private void run(String readme) throws Exception {
        Class<?> examples = compiled(source(readme));
        examples(examples);
        commands(examples.getMethod("call", int.class, GuardRoster.class));
        files(readme);
    }

    private void examples(Class<?> examples) throws Exception {
        check.at("README.md, examples");
        List<?> answered = (List<?>) examples.getMethod("answers").invoke(null);
        check.same(String.join("\n", answersDue), String.join("\n", answered.toArray(new String[0])));
        check.same("true", String.valueOf(answersDue.size() > 15));
    }

    /** One after the other, on two rosters that are equal. */
    private void commands(Method call) {
        GuardRoster told = roster("", "9");
        GuardRoster called = roster("", "9");
        for (int row = 0; row < commands.size(); row++) {
            int number = row;
            check.at("README.md, " + commands.get(row));
            String before = picture(told);
            check.is(1, () -> run(told, commands.get(number)));
            check.same("true", String.valueOf(!before.equals(picture(told))));
            check.is("null", () -> call.invoke(null, number, called));
            check.same(picture(called), picture(told));
        }
        check.same("8", String.valueOf(commands.size()));
    }

    /** Each test of the project has its row, and no row is without its test. */
    private static void files(String readme) throws Exception {
        check.at("README.md, tests");
        List<String> named = new ArrayList<>();
        Matcher row = Pattern.compile("\n\\| `(\\w+Test)` ").matcher(readme);
        while (row.find()) {
            named.add(row.group(1) + ".java");
        }
        try (var tests = Files.list(Path.of("src/test/java"))) {
            List<String> there = tests.map(file -> file.getFileName().toString())
                    .filter(name -> name.endsWith("Test.java")).sorted().toList();
            check.same(there.toString(), named.stream().sorted().toList().toString());
        }
    }

    private String source(String readme) {
        StringBuilder source = new StringBuilder("import java.util.*;\npublic final class ReadmeExamples {\n")
                .append("public static List<String> answers() {\nList<String> answers = new ArrayList<>();\n");
        Matcher block = Pattern.compile("(?s)```java\n(.*?)```").matcher(readme);
        while (block.find()) {
            for (String line : block.group(1).split("\n")) {
                source.append(withAnswer(line)).append('\n');
            }
        }
        source.append("return answers;\n}\npublic static void call(int row, GuardRoster x) {\nswitch (row) {\n");
        Matcher row = ROW.matcher(readme);
        while (row.find()) {
            source.append("case ").append(commands.size()).append(": x.").append(row.group(2)).append("; break;\n");
            commands.add(row.group(1));
        }
        return source.append("default: throw new IllegalArgumentException();\n}\n}\n}\n").toString();
    }

    private String withAnswer(String line) {
        Matcher told = TOLD.matcher(line);
        if (!told.matches()) {
            return line;
        }
        answersDue.add(told.group(3) + " " + told.group(4).trim());
        String quoted = told.group(3).replace("\"", "\\\"");
        String name = told.group(2);
        String value = name == null ? told.group(3) : name;
        return (name == null ? "" : "int " + name + " = " + told.group(3) + ";\n")
                + "answers.add(\"" + quoted + " \" + " + value + ");";
    }

    private static Class<?> compiled(String source) throws Exception {
        Path place = Files.createTempDirectory("readme");
        Path file = place.resolve("ReadmeExamples.java");
        Path compiled = place.resolve("ReadmeExamples.class");
        try {
            Files.writeString(file, source);
            int result = ToolProvider.getSystemJavaCompiler().run(null, null, null, "-cp",
                    System.getProperty("java.class.path"), "-d", place.toString(), file.toString());
            check.at("README.md");
            check.same("the examples compile", result == 0 ? "the examples compile" : source);
            URL[] places = {place.toUri().toURL()};
            try (URLClassLoader loader = new URLClassLoader(places, GuardRosterReadmeTest.class.getClassLoader())) {
                return loader.loadClass("ReadmeExamples");
            }
        } finally {
            Files.deleteIfExists(file);
            Files.deleteIfExists(compiled);
            Files.deleteIfExists(place);
        }
    }
}
