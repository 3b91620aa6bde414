import java.lang.reflect.Method;
import java.lang.reflect.Modifier;
import java.net.URL;
import java.net.URLClassLoader;
import java.nio.file.DirectoryStream;
import java.nio.file.Files;
import java.nio.file.Path;
import java.util.ArrayList;
import java.util.List;
import java.util.Set;
import java.util.TreeSet;
import java.util.function.BiConsumer;
import java.util.regex.Matcher;
import java.util.regex.Pattern;
import javax.tools.ToolProvider;

/** README.md: each call of its examples answers as it says, and it names every call and every test there is. */
public final class ReadmeTest {
    private static final Pattern ANSWERED = Pattern.compile("((?:x\\.|write\\().*\\));\\s*// (-?\\d+)(?:: .*)?");
    private static final Pattern TEST = Pattern.compile("`(\\w+Test)`");
    private static final Due DUE = new Due();

    private ReadmeTest() {
    }

    public static void main(String[] args) throws Exception {
        List<String> lines = Files.readAllLines(Path.of("README.md"));
        runExamples(examples(lines));
        String text = String.join("\n", lines);
        checkCalls(text);
        checkTests(text);
        DUE.finish();
    }

    /** One class of all examples: methods as they stand, and the calls in their order within one method. */
    private static String examples(List<String> lines) {
        List<String> methods = new ArrayList<>();
        List<String> calls = new ArrayList<>();
        boolean within = false;
        boolean isMethod = false;
        int answered = 0;
        for (String line : lines) {
            if (line.startsWith("```")) {
                within = line.equals("```java");
                isMethod = false;
            } else if (within) {
                isMethod = isMethod || line.startsWith("static ");
                Matcher call = ANSWERED.matcher(line);
                if (isMethod) {
                    methods.add(line);
                } else if (call.matches()) {
                    String name = call.group(1).replace("\\", "\\\\").replace("\"", "\\\"");
                    calls.add("due.accept(\"" + name + "\", new long[] {" + call.group(1) + ", " + call.group(2) + "L});");
                    answered++;
                } else {
                    DUE.isTrue("an example tells what it answers: " + line, line.equals("SoleraCellar x = new SoleraCellar();"));
                    calls.add(line);
                }
            }
        }
        DUE.isTrue(answered + " calls of examples, 40 at least", answered >= 40);
        return "public final class ReadmeExamples {\n" + String.join("\n", methods)
            + "\npublic static void run(java.util.function.BiConsumer<String, long[]> due) {\n" + String.join("\n", calls) + "\n}\n}\n";
    }

    private static void runExamples(String source) throws Exception {
        Path folder = Files.createTempDirectory("readme");
        Path file = folder.resolve("ReadmeExamples.java");
        Path made = folder.resolve("ReadmeExamples.class");
        try {
            Files.writeString(file, source);
            String classes = System.getProperty("java.class.path");
            int wrong = ToolProvider.getSystemJavaCompiler().run(null, null, null, "-cp", classes, "-d", folder.toString(), file.toString());
            DUE.is("the examples compile", wrong, 0);
            if (wrong == 0) {
                try (URLClassLoader loader = new URLClassLoader(new URL[] {folder.toUri().toURL()})) {
                    Method run = loader.loadClass("ReadmeExamples").getMethod("run", BiConsumer.class);
                    BiConsumer<String, long[]> due = (call, answers) -> DUE.is(call, answers[0], answers[1]);
                    run.invoke(null, due);
                }
            }
        } finally {
            Files.deleteIfExists(made);
            Files.deleteIfExists(file);
            Files.deleteIfExists(folder);
        }
    }

    private static void checkCalls(String text) {
        for (Method method : SoleraCellar.class.getDeclaredMethods()) {
            if (Modifier.isPublic(method.getModifiers())) {
                List<String> names = new ArrayList<>();
                for (int i = 0; i < method.getParameterCount(); i++) {
                    names.add("\\w+");
                }
                Pattern told = Pattern.compile("\\| .*`" + method.getName() + "\\(" + String.join(", ", names) + "\\)`.* \\|");
                DUE.isTrue("it names " + method.getName() + "()", told.matcher(text).find());
            }
        }
    }

    private static void checkTests(String text) throws Exception {
        Set<String> there = new TreeSet<>();
        try (DirectoryStream<Path> files = Files.newDirectoryStream(Path.of("src/test/java"), "*Test.java")) {
            for (Path file : files) {
                there.add(file.getFileName().toString().replace(".java", ""));
            }
        }
        Set<String> told = new TreeSet<>();
        Matcher test = TEST.matcher(text);
        while (test.find()) {
            told.add(test.group(1));
        }
        DUE.isTrue("it names the tests " + there + " and not " + told, told.equals(there));
        for (String name : there) {
            DUE.isTrue("it tells what " + name + " looks at", text.contains("\n| `" + name + "` | "));
        }
    }
}
