import java.lang.reflect.Constructor;
import java.lang.reflect.Field;
import java.lang.reflect.Member;
import java.lang.reflect.Method;
import java.lang.reflect.Modifier;
import java.nio.file.Files;
import java.nio.file.Path;
import java.util.Arrays;
import java.util.TreeSet;
import java.util.regex.Matcher;
import java.util.regex.Pattern;

/** What of LANGUAGE.md a look at the source and at the class's face can tell. */
public final class RulesTest {
    private static final String FACE = "act(3) as(2) asked(2) best(2) book(3) by(2) chance(5) chief(3) clear(0) "
        + "count(1) feed(1) fresh(2) house(0) image(0) leans(3) looked(0) mark(2) move(2) moved(2) nets(1) of(2) "
        + "set(3) swap(1) told(1) trace(1) undo(0) worker(4) wrong(1) year(0) years(3)";

    public static void main(String[] args) throws Exception {
        face();
        String text = Files.readString(Path.of("src/main/java/ChiefGrades.java"));
        source(text);
        lengths(text.split("\n"));
        Check.end("RulesTest");
    }

    private static void face() {
        TreeSet<String> open = new TreeSet<>(), hidden = new TreeSet<>();
        for (Method m : ChiefGrades.class.getDeclaredMethods()) {
            if (isHidden(m)) hidden.add(m.getName());
            else open.add(m.getName() + "(" + m.getParameterCount() + ")");
            boolean isLong = m.getName().equals("chance") || m.getName().equals("leans");
            if (!isHidden(m)) Check.due("type of " + m, m.getReturnType() == (isLong ? long.class : int.class) ? 1 : 0, 1);
            if (!isHidden(m)) Check.due(m + " is public", Modifier.isPublic(m.getModifiers()) ? 1 : 0, 1);
            for (Class<?> type : m.getParameterTypes()) {
                if (!isHidden(m)) Check.due("argument of " + m, type == int.class ? 1 : 0, 1);
            }
        }
        Check.due("the face is " + open, String.join(" ", open).equals(FACE) ? 1 : 0, 1);
        for (String name : hidden) Check.due("private " + name, FACE.matches(".*\\b" + name + "\\(.*") ? 1 : 0, 0);
        int fields = 0;
        for (Field f : ChiefGrades.class.getDeclaredFields()) {
            if (isHidden(f)) continue;
            fields++;
            Check.due("constant " + f, Modifier.isStatic(f.getModifiers()) && Modifier.isFinal(f.getModifiers()) ? 1 : 0, 1);
        }
        Check.due("constants", fields, 5);
        Constructor<?>[] made = ChiefGrades.class.getDeclaredConstructors();
        Check.due("constructors", made.length, 1);
        Check.due("its arguments", made[0].getParameterCount(), 0);
        Check.due("final", Modifier.isFinal(ChiefGrades.class.getModifiers()) ? 1 : 0, 1);
        Class<?>[] inside = ChiefGrades.class.getDeclaredClasses();
        Check.due("classes in all, some twelve: " + inside.length, inside.length <= 11 ? 1 : 0, 1);
        for (Class<?> c : inside) {
            Check.due("static " + c, Modifier.isStatic(c.getModifiers()) ? 1 : 0, 1);
            Check.due("not public " + c, Modifier.isPublic(c.getModifiers()) ? 1 : 0, 0);
            for (Method m : c.getDeclaredMethods()) {
                Check.due("arguments of " + m, m.getParameterCount() <= 7 ? 1 : 0, 1);
            }
            long own = Arrays.stream(c.getDeclaredFields()).filter(f -> !Modifier.isStatic(f.getModifiers())).count();
            Check.due("fields of " + c, own <= 20 ? 1 : 0, 1);
        }
    }

    private static boolean isHidden(Member m) {
        return Modifier.isPrivate(m.getModifiers());
    }

    private static void lengths(String[] lines) {
        int methods = 0;
        for (int i = 0; i < lines.length; i++) {
            String indent = lines[i].replaceAll("\\S.*", "");
            boolean isMethod = lines[i].matches(" {4}( {4})?\\w.*\\(.*\\) \\{")
                && !lines[i].matches(" *(if|for|while|switch|do|else)\\b.*");
            if (!isMethod) continue;
            methods++;
            int end = i;
            while (end < lines.length && !lines[end].equals(indent + "}")) end++;
            Check.due("lines of" + lines[i], end - i < 60 ? 1 : 0, 1);
        }
        Check.due("methods found: " + methods, methods > 100 ? 1 : 0, 1);
    }

    private static void source(String text) {
        String[] never = {"throw", "throws", "try", "catch", "finally", "synchronized", "assert", "import", "package",
            "native", "volatile", "transient", "yield", "var", "Object", "Exception", "Error", "System\\.out",
            "System\\.nano", "currentTime", "Random", "Thread", "Exact", "printf", "hashCode", "equals", "toString",
            "getClass", "null\\.", "goto", "strictfp", "protected"};
        String code = text.replaceAll("(?s)/\\*.*?\\*/", "").replaceAll("//[^\n]*", "");
        for (String word : never) {
            Matcher found = Pattern.compile("\\b" + word + "\\b").matcher(code);
            Check.due("in the source: " + word, found.find() ? 1 : 0, 0);
        }
        for (String sign : new String[] {"->", "::", "@", "\\u"}) {
            Check.due("in the source: " + sign, code.contains(sign) ? 1 : 0, 0);
        }
        Check.due("signs 1 to 127", text.chars().allMatch(c -> c > 0 && c < 128) ? 1 : 0, 1);
        Matcher called = Pattern.compile("\\b(Math|Integer|Long|System|Arrays|LETTERS|word)\\.(\\w+)").matcher(code);
        TreeSet<String> used = new TreeSet<>();
        while (called.find()) used.add(called.group());
        String may = "[Integer.bitCount, LETTERS.indexOf, Long.MIN_VALUE, Math.abs, Math.max, Math.min, "
            + "System.arraycopy, word.charAt, word.length]";
        Check.due("of the library: " + used, used.toString().equals(may) ? 1 : 0, 1);
    }
}
