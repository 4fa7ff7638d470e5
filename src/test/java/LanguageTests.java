import java.lang.reflect.Constructor;
import java.lang.reflect.Field;
import java.lang.reflect.Method;
import java.lang.reflect.Modifier;
import java.nio.file.Files;
import java.nio.file.Path;
import java.util.ArrayList;
import java.util.HashSet;
import java.util.List;
import java.util.Set;
import java.util.TreeSet;
import java.util.regex.Matcher;
import java.util.regex.Pattern;

/** The rules of LANGUAGE.md that can be seen from the source or the class, and the public face. */
public final class LanguageTests extends Check {
    private static final String FACE = "int feed int int int int int|int back int|int read|int place|int guest int int|int inn int int"
            + "|int gives int int|boolean lodge int int|int nights int|int morning|boolean swap int int|int deposit int boolean|boolean undo"
            + "|int owes int int int|int mean int int boolean|int sure int|int lodging int|int lodgingAt int int|int swaps int"
            + "|int declares int|int posts int|int year int int int|int poorBy int|int shows int|int tell int|int forget|int from int"
            + "|int likeliest int|int whose int|boolean hold int|boolean restore int|int count int";

    public static void main(String[] args) throws Exception {
        face();
        classes();
        source(Files.readString(Path.of("src/main/java/DreamDuty.java")));
        end();
    }

    private static void none(String what, Set<String> found) {
        due(what + " " + found, found.size(), 0);
    }

    private static void face() {
        Set<String> face = new TreeSet<>();
        for (Method m : DreamDuty.class.getDeclaredMethods()) {
            if (Modifier.isPrivate(m.getModifiers())) continue;
            StringBuilder s = new StringBuilder(m.getReturnType() + " " + m.getName());
            for (Class<?> p : m.getParameterTypes()) s.append(' ').append(p);
            face.add(s.toString());
        }
        Set<String> due = new TreeSet<>(List.of(FACE.split("\\|")));
        Set<String> more = new TreeSet<>(face);
        more.removeAll(due);
        none("more than the face", more);
        due.removeAll(face);
        none("less than the face", due);
        for (Field f : DreamDuty.class.getDeclaredFields()) {
            due("field " + f.getName(), Modifier.isPrivate(f.getModifiers()) || f.getName().equals("NONE"), true);
        }
        Constructor<?>[] made = DreamDuty.class.getDeclaredConstructors();
        due("constructors", made.length, 1);
        due("constructor is public", Modifier.isPublic(made[0].getModifiers()), true);
        due("class is public and final", DreamDuty.class.getModifiers(), Modifier.PUBLIC | Modifier.FINAL);
    }

    private static void classes() {
        List<Class<?>> all = new ArrayList<>(List.of(DreamDuty.class.getDeclaredClasses()));
        all.add(DreamDuty.class);
        due("twelve classes at most", all.size() <= 12, true);
        Set<String> names = new HashSet<>();
        for (Method m : DreamDuty.class.getDeclaredMethods()) if (Modifier.isPublic(m.getModifiers())) names.add(m.getName());
        for (Class<?> c : all) {
            due(c + " is static", c == DreamDuty.class || Modifier.isStatic(c.getModifiers()), true);
            int fields = 0;
            for (Field f : c.getDeclaredFields()) {
                boolean isStatic = Modifier.isStatic(f.getModifiers());
                if (!isStatic) fields++;
                due("static is final: " + f, !isStatic || Modifier.isFinal(f.getModifiers()), true);
            }
            due("fields of " + c, fields <= 20, true);
            for (Method m : c.getDeclaredMethods()) {
                due("parameters of " + m, m.getParameterCount() <= 7, true);
                boolean own = c == DreamDuty.class && Modifier.isPublic(m.getModifiers());
                due("a name of the face: " + m, own || !names.contains(m.getName()), true);
            }
        }
    }

    private static void source(String text) {
        String code = text.replaceAll("(?s)/\\*.*?\\*/", "").replaceAll("//[^\n]*", "");
        Set<String> found = new TreeSet<>();
        Matcher m = Pattern.compile("\\b(throw|throws|try|catch|finally|synchronized|assert|var|record|sealed|yield|package|goto"
                + "|Exact|hashCode|toString|getClass|System\\.(?!arraycopy)\\w+|Object|Thread|Random|HashMap|Iterator|Stream|NaN)\\b|->|::"
                + "|\"\\s*\\+|\\+\\s*\"|\\w+Exact\\b").matcher(code);
        while (m.find()) found.add(m.group());
        none("words that the language leaves out", found);
        Set<String> imports = new TreeSet<>();
        m = Pattern.compile("import ([^;]+);").matcher(code);
        while (m.find()) if (!m.group(1).equals("java.util.Arrays")) imports.add(m.group(1));
        none("imports", imports);
        for (char c : text.toCharArray()) if (c > 126) found.add("" + c);
        none("signs above 126", found);
        methodLengths(text.split("\n"));
    }

    // A method begins on a line with its bracket, and ends where a line has one as deep.
    private static void methodLengths(String[] lines) {
        Pattern head = Pattern.compile("^( +)(?!.*\\b(class|new|return|else|if|for|while|switch)\\b)[\\w<>\\[\\] ]+\\([^;]*\\{$");
        for (int i = 0; i < lines.length; i++) {
            Matcher m = head.matcher(lines[i]);
            if (!m.matches()) continue;
            int end = i;
            while (end < lines.length && !lines[end].equals(m.group(1) + "}")) end++;
            due("lines of " + lines[i].trim(), end - i <= 60, true);
        }
    }
}
