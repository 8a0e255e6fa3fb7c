import java.io.File;
import java.io.IOException;
import java.lang.reflect.Method;
import java.lang.reflect.Modifier;
import java.net.URL;
import java.net.URLClassLoader;
import java.nio.file.Files;
import java.nio.file.Path;
import java.util.ArrayList;
import java.util.LinkedHashSet;
import java.util.List;
import java.util.Set;
import java.util.regex.Matcher;
import java.util.regex.Pattern;
import javax.tools.JavaCompiler;
import javax.tools.ToolProvider;

/** What README.md says: its calls are compiled as they stand there, and answer as it says. */
public final class ReadmeTest {
    private static final Pattern BLOCK = Pattern.compile("(?s)```java\n(.*?)```");
    private static final Pattern CALL = Pattern.compile("(x\\.(\\w+)\\(.*\\)); +// (-?\\d+|true|false)\\b.*");

    public static void main(String[] args) throws IOException, ReflectiveOperationException {
        String readme = Files.readString(Path.of("README.md"));
        Check.yes("it says how all tests are run", readme.contains("\n    .ci/run\n"));
        StringBuilder members = new StringBuilder();
        StringBuilder calls = new StringBuilder();
        Set<String> called = new LinkedHashSet<>();
        Matcher block = BLOCK.matcher(readme);
        while (block.find()) {
            String code = block.group(1);
            if (code.startsWith("static ")) {
                members.append(code);
            } else {
                code.lines().forEach(line -> calls.append(noted(line, called)).append('\n'));
            }
        }
        Check.yes("it calls all of the face, but just " + called, called.equals(face()));
        answers("public final class Readme {\n" + members + "public static void run(java.util.List<String> told) {\n" + calls
                + "}\n}\n");
        Check.finish();
    }

    private static Set<String> face() {
        Set<String> names = new LinkedHashSet<>();
        for (Method method : LakeMarket.class.getDeclaredMethods()) {
            if (Modifier.isPublic(method.getModifiers())) {
                names.add(method.getName());
            }
        }
        return names;
    }

    /** A call on a line of its own, with its answer told behind the one that is due; other lines stay. */
    private static String noted(String line, Set<String> called) {
        Matcher call = CALL.matcher(line);
        if (!call.matches()) {
            Check.no("a call without an answer: " + line, line.startsWith("x."));
            return line;
        }
        called.add(call.group(2));
        return "told.add(\"" + call.group(1) + "\"); told.add(\"" + call.group(3) + "\"); told.add(String.valueOf("
                + call.group(1) + "));";
    }

    private static void answers(String source) throws IOException, ReflectiveOperationException {
        Path folder = Files.createTempDirectory("readme");
        Path file = folder.resolve("Readme.java");
        Path made = folder.resolve("Readme.class");
        Files.writeString(file, source);
        JavaCompiler javac = ToolProvider.getSystemJavaCompiler();
        int code = javac.run(null, null, null, "-cp", System.getProperty("java.class.path"), "-d", folder.toString(),
                file.toString());
        Check.due("its calls compile", code, 0);
        List<String> told = new ArrayList<>();
        if (code == 0) {
            URL[] places = {new File(folder + "/").toURI().toURL()};
            try (URLClassLoader loader = new URLClassLoader(places)) {
                loader.loadClass("Readme").getMethod("run", List.class).invoke(null, told);
            }
        }
        for (int k = 0; k + 2 < told.size(); k += 3) {
            Check.due("README.md's " + told.get(k), number(told.get(k + 2)), number(told.get(k + 1)));
        }
        Files.deleteIfExists(made);
        Files.delete(file);
        Files.delete(folder);
    }

    private static long number(String answer) {
        return answer.equals("true") ? 1 : answer.equals("false") ? 0 : Long.parseLong(answer);
    }
}
