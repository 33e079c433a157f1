import java.lang.reflect.Method;
import java.lang.reflect.Modifier;
import java.net.URL;
import java.net.URLClassLoader;
import java.nio.file.Files;
import java.nio.file.Path;
import java.util.ArrayList;
import java.util.List;
import java.util.function.LongConsumer;
import java.util.regex.Matcher;
import java.util.regex.Pattern;
import javax.tools.ToolProvider;

/** README.md names every call, and the calls that it makes answer what it says. */
public final class ReadmeTest {
    private static final String NEW_OBJECT = "TideWords x = new TideWords();";
    private static final Pattern CALL = Pattern.compile("(x\\..*\\)); *// (-?\\d+|[A-Z_]+): .*");

    private ReadmeTest() {
    }

    public static void main(String[] args) throws Exception {
        String readme = Files.readString(Path.of("README.md"));
        for (Method method : TideWords.class.getDeclaredMethods()) {
            String name = method.getName();
            Due.isTrue(!Modifier.isPublic(method.getModifiers()) || readme.contains("`" + name + "`"), "README.md does not name " + name);
        }
        answersAreDue(readme.replaceFirst("(?s).*```java\n", "").replaceFirst("(?s)```.*", ""));
        Due.finish();
    }

    private static void answersAreDue(String lines) throws Exception {
        List<String> calls = new ArrayList<>();
        List<Long> due = new ArrayList<>();
        for (String line : lines.lines().filter(line -> !line.isEmpty() && !line.equals(NEW_OBJECT)).toList()) {
            Matcher call = CALL.matcher(line);
            Due.isTrue(call.matches(), "this line of README.md is no call that tells its answer: " + line);
            if (call.matches()) {
                calls.add(call.group(1));
                due.add(number(call.group(2)));
            }
        }
        List<Long> got = answers(calls);
        for (int i = 0; i < calls.size(); i++) {
            Due.due(calls.get(i), got.get(i), due.get(i));
        }
    }

    private static long number(String said) throws Exception {
        return Character.isLetter(said.charAt(0)) ? TideWords.class.getField(said).getInt(null) : Long.parseLong(said);
    }

    /** The calls as they stand in README.md, compiled as a class of their own. */
    private static List<Long> answers(List<String> calls) throws Exception {
        StringBuilder code = new StringBuilder("public final class ReadmeCalls {\npublic static void make(java.util.function.LongConsumer answer) {\n");
        code.append(NEW_OBJECT).append('\n');
        calls.forEach(call -> code.append("answer.accept(").append(call).append(");\n"));
        code.append("}\n}\n");
        Path folder = Files.createTempDirectory("readme");
        Path file = Files.writeString(folder.resolve("ReadmeCalls.java"), code);
        ToolProvider.getSystemJavaCompiler().run(null, null, null, "-cp", System.getProperty("java.class.path"), file.toString());
        List<Long> answers = new ArrayList<>();
        try (URLClassLoader loader = new URLClassLoader(new URL[] {folder.toUri().toURL()})) {
            LongConsumer answer = answers::add;
            loader.loadClass("ReadmeCalls").getMethod("make", LongConsumer.class).invoke(null, answer);
        }
        Files.delete(file);
        Files.delete(folder.resolve("ReadmeCalls.class"));
        Files.delete(folder);
        return answers;
    }
}
