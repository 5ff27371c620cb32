import java.io.IOException;
import java.lang.reflect.Constructor;
import java.lang.reflect.Field;
import java.lang.reflect.Method;
import java.lang.reflect.Modifier;
import java.nio.file.Files;
import java.nio.file.Path;
import java.util.Arrays;
import java.util.List;
import java.util.TreeSet;
import java.util.regex.Matcher;
import java.util.regex.Pattern;

/** The document's face, and those rules of LANGUAGE.md that can be seen in the source or in the classes. */
public final class RulesTest {
    private static final Check CHECK = new Check();
    private static final List<String> FACE = List.of("int feed(int,int,int,int,int)", "int end(int)", "int program()",
        "int fault(int)", "int cycles(int)", "void begin()", "boolean room(int,int)", "int count(int)", "int side(int,int)",
        "int deeds(int,int)", "int text(int,int,int,int)", "int did(int,int,int)", "int queue(int,int)", "int roomOf(int)",
        "int cell(int)", "int register(int)", "int alone(int,int)", "int ahead(int,int)", "int time()", "int late(int)",
        "int keeping(int)", "int best()", "int least(int,boolean)", "int safe()", "int rounds(int)", "int changed(int)",
        "int slipped(int)", "boolean image(int)", "boolean again(int)");

    public static void main(String[] args) throws IOException {
        face();
        classes();
        String source = Files.readString(Path.of("src/main/java/TwoProcessors.java"));
        words(source);
        lengths(source);
        CHECK.finish();
    }

    private static String told(Method m) {
        StringBuilder all = new StringBuilder(m.getReturnType() + " " + m.getName() + "(");
        for (Class<?> c : m.getParameterTypes()) {
            all.append(all.charAt(all.length() - 1) == '(' ? "" : ",").append(c);
        }
        return all.append(')').toString();
    }

    private static void face() {
        CHECK.about("the face");
        TreeSet<String> seen = new TreeSet<>();
        for (Method m : TwoProcessors.class.getDeclaredMethods()) {
            if (!Modifier.isPrivate(m.getModifiers())) {
                seen.add(told(m));
                CHECK.due(m.getName() + " is public and not static",
                    Modifier.isPublic(m.getModifiers()) && !Modifier.isStatic(m.getModifiers()), true);
            }
        }
        CHECK.due("methods", seen.toString(), new TreeSet<>(FACE).toString());
        CHECK.due("final", Modifier.isFinal(TwoProcessors.class.getModifiers()), true);
        StringBuilder fields = new StringBuilder();
        for (Field f : TwoProcessors.class.getDeclaredFields()) {
            if (!Modifier.isPrivate(f.getModifiers())) {
                fields.append(f.getName());
            }
        }
        CHECK.due("constants", fields.toString(), "NONE");
        Constructor<?>[] made = TwoProcessors.class.getConstructors();
        CHECK.due("constructors", made.length, 1);
        CHECK.due("its parameters", made[0].getParameterCount(), 0);
    }

    private static void classes() {
        CHECK.about("the classes inside");
        Class<?>[] inside = TwoProcessors.class.getDeclaredClasses();
        CHECK.due("some twelve at most", inside.length < 12, true);
        TreeSet<String> open = new TreeSet<>();
        FACE.forEach(f -> open.add(f.replaceAll("^\\w+ |\\(.*", "")));
        for (Class<?> c : inside) {
            CHECK.due(c + " is static", Modifier.isStatic(c.getModifiers()), true);
            for (Method m : c.getDeclaredMethods()) {
                CHECK.due(c + "." + m.getName() + " bears the name of a public one", open.contains(m.getName()), false);
                CHECK.due(c + "." + m.getName() + " takes seven at most", m.getParameterCount() <= 7, true);
            }
            long fields = Arrays.stream(c.getDeclaredFields()).filter(f -> !Modifier.isStatic(f.getModifiers())).count();
            CHECK.due(c + " has some twenty fields at most", fields <= 20, true);
        }
        for (Method m : TwoProcessors.class.getDeclaredMethods()) {
            CHECK.due("private " + m.getName() + " bears the name of a public one",
                Modifier.isPrivate(m.getModifiers()) && open.contains(m.getName()), false);
        }
    }

    private static void lengths(String source) {
        CHECK.about("methods of some sixty lines at most");
        String[] lines = source.split("\n");
        int found = 0;
        for (int i = 0; i < lines.length; i++) {
            Matcher head = Pattern.compile("^( {4}| {8})(?!if |for |while |switch )[\\w<>\\[\\]][\\w<>\\[\\] ]*\\(.*\\) \\{$").matcher(lines[i]);
            if (head.matches()) {
                int end = i;
                while (end < lines.length && !lines[end].equals(head.group(1) + "}")) {
                    end++;
                }
                CHECK.due(lines[i].trim() + " is short", end - i < 60, true);
                found++;
            }
        }
        CHECK.due("methods are found", found > 100, true);
    }

    private static void words(String source) {
        CHECK.about("the source");
        String code = source.replaceAll("(?s)/\\*.*?\\*/", "").replaceAll("//[^\n]*", "");
        String bare = code.replaceAll("\"[^\"]*\"", "\"\"").replaceAll("'[^']*'", "' '");
        for (String word : List.of("throw", "throws", "try", "catch", "finally", "synchronized", "assert", "package",
            "protected", "native", "volatile", "System.out", "Random", "Thread", "Object", "var", "hashCode", "toString")) {
            CHECK.due(word, Pattern.compile("\\b" + Pattern.quote(word) + "\\b").matcher(bare).find(), false);
        }
        for (String sign : List.of("->", "::", "@", "String[]", "\" +", "+ \"")) {
            CHECK.due(sign, bare.contains(sign), false);
        }
        Matcher imports = Pattern.compile("import ([^;]+);").matcher(bare);
        while (imports.find()) {
            CHECK.due("import", imports.group(1), "java.util.Arrays");
        }
        for (int i = 0; i < source.length(); i++) {
            if (source.charAt(i) > 126) {
                CHECK.due("sign at " + i, source.charAt(i), 0);
            }
        }
    }
}
