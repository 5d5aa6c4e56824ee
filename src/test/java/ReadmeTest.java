import java.io.IOException;
import java.lang.reflect.Method;
import java.lang.reflect.Modifier;
import java.net.URL;
import java.net.URLClassLoader;
import java.nio.file.Files;
import java.nio.file.Path;
import java.util.ArrayList;
import java.util.List;
import java.util.regex.Matcher;
import java.util.regex.Pattern;
import javax.tools.ToolProvider;

/** What README.md shows compiles and answers as it says, and no call of the face is missing in it. */
public final class ReadmeTest {
    private static final Due DUE = new Due("ReadmeTest");
    private static final String PROGRAM = "ReadmeProgram";
    private static final String KEEP = "answers.add(";
    /** A call that ends its line, and the answer that the comment behind it begins with. */
    private static final Pattern SHOWN = Pattern.compile("(.*\\));\\s*// (-?\\d+|true|false)\\b.*");

    private final StringBuilder methods = new StringBuilder();
    private final StringBuilder steps = new StringBuilder();
    private final List<String> calls = new ArrayList<>();
    private final List<String> wanted = new ArrayList<>();

    public static void main(String[] args) throws Exception {
        new ReadmeTest().run(Files.readString(Path.of("README.md")));
        DUE.finish();
    }

    private void run(String readme) throws Exception {
        Matcher block = Pattern.compile("```java\n(.*?)```", Pattern.DOTALL).matcher(readme);
        while (block.find()) {
            if (block.group(1).startsWith("static")) {
                methods.append(block.group(1));
            } else {
                takeSteps(block.group(1));
            }
        }
        List<Object> answers = answers();
        DUE.is("answers shown", answers.size(), wanted.size());
        for (int i = 0; i < answers.size(); i++) {
            DUE.same(calls.get(i), String.valueOf(answers.get(i)), wanted.get(i));
        }
        everyCallIsShown();
    }

    private void takeSteps(String block) {
        for (String line : block.split("\n")) {
            Matcher shown = SHOWN.matcher(line);
            if (!shown.matches()) {
                DUE.is(line + " shows no answer", line.startsWith("x."), false);
                steps.append(line).append('\n');
                continue;
            }
            String call = shown.group(1);
            if (call.strip().startsWith("\"\"\"")) {
                // The end of a text of many lines: its call began with the latest tell.
                steps.insert(steps.lastIndexOf("tell("), KEEP);
                steps.append(call);
            } else {
                steps.append(KEEP).append(call);
            }
            steps.append(");\n");
            calls.add(call.strip());
            wanted.add(shown.group(2));
        }
    }

    @SuppressWarnings("unchecked")
    private List<Object> answers() throws Exception {
        String source = "import java.util.*;\npublic final class " + PROGRAM + " {\n" + methods
                + "public static List<Object> answers() {\nList<Object> answers = new ArrayList<>();\n"
                + steps + "return answers;\n}\n}\n";
        Path directory = compiled(source);
        try (URLClassLoader loader = new URLClassLoader(new URL[] {directory.toUri().toURL()})) {
            return (List<Object>) loader.loadClass(PROGRAM).getMethod("answers").invoke(null);
        }
    }

    private static Path compiled(String source) throws IOException {
        Path directory = Files.createDirectories(Path.of("build/readme"));
        Path file = directory.resolve(PROGRAM + ".java");
        Files.writeString(file, source);
        int code = ToolProvider.getSystemJavaCompiler().run(null, null, null,
                "-cp", System.getProperty("java.class.path"), "-d", directory.toString(), file.toString());
        DUE.is("compiling what README.md shows", code, 0);
        return directory;
    }

    private void everyCallIsShown() {
        for (Method method : ThreeTiers.class.getDeclaredMethods()) {
            if (Modifier.isPublic(method.getModifiers())) {
                boolean shown = false;
                for (String call : calls) {
                    shown |= call.startsWith("x." + method.getName() + "(");
                }
                DUE.is(method.getName() + " is shown", shown, true);
            }
        }
    }
}
