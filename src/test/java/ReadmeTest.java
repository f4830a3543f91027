import java.net.URL;
import java.net.URLClassLoader;
import java.nio.file.Files;
import java.nio.file.Path;
import java.util.regex.Matcher;
import java.util.regex.Pattern;
import javax.tools.ToolProvider;

/** The program in README.md answers what it says, and README.md names each call of the face. */
public final class ReadmeTest {
    // what is asked, whether its answer is kept or not, and the answer behind it
    private static final Pattern ASKED = Pattern.compile("(?:int (\\w+) = )?(x\\.\\w+\\(.*?\\)); *// (-?\\d+).*");

    public static void main(String[] args) throws Exception {
        String text = Files.readString(Path.of("README.md"));
        names(text);
        runs(text.substring(text.indexOf("```java") + 7, text.lastIndexOf("```")));
        Check.end("ReadmeTest");
    }

    private static void names(String text) {
        for (java.lang.reflect.Method m : ChiefGrades.class.getDeclaredMethods()) {
            if (!java.lang.reflect.Modifier.isPublic(m.getModifiers())) continue;
            Check.due("README.md tells of " + m.getName(), text.contains("`" + m.getName() + "`") ? 1 : 0, 1);
        }
    }

    private static void runs(String example) throws Exception {
        StringBuilder program = new StringBuilder("public class Example { public static void main(String[] a) {\n");
        int answers = 0;
        for (String line : example.split("\n")) {
            Matcher asked = ASKED.matcher(line);
            if (!asked.matches()) {
                program.append(line).append('\n');
                continue;
            }
            answers++;
            String kept = asked.group(1) == null ? "answer" + answers : asked.group(1);
            program.append("int ").append(kept).append(" = ").append(asked.group(2)).append(";\n");
            program.append("due(\"").append(asked.group(2)).append("\", ").append(kept).append(", ");
            program.append(asked.group(3)).append(");\n");
        }
        program.append("}\nstatic void due(String asked, int got, int want) {\n");
        program.append("if (got != want) throw new IllegalStateException(asked + \" answered \" + got);\n}}\n");
        Check.due("answers that README.md tells", answers, 17);
        run(program.toString());
    }

    private static void run(String program) throws Exception {
        Path place = Files.createTempDirectory("readme");
        Path file = Files.writeString(place.resolve("Example.java"), program);
        String classes = System.getProperty("java.class.path");
        int failed = ToolProvider.getSystemJavaCompiler()
            .run(null, null, null, "-cp", classes, "-d", place.toString(), file.toString());
        Check.due("the program in README.md compiles", failed, 0);
        if (failed != 0) return;
        String thrown = "";
        try (URLClassLoader loader = new URLClassLoader(new URL[] {place.toUri().toURL()})) {
            loader.loadClass("Example").getMethod("main", String[].class).invoke(null, (Object) new String[0]);
        } catch (java.lang.reflect.InvocationTargetException e) {
            thrown = e.getCause().getMessage();
        }
        Check.due("the program in README.md: " + thrown, thrown.isEmpty() ? 0 : 1, 0);
        for (String name : new String[] {"Example.class", "Example.java"}) Files.deleteIfExists(place.resolve(name));
        Files.deleteIfExists(place);
    }
}
