import java.lang.reflect.Constructor;
import java.lang.reflect.Field;
import java.lang.reflect.Method;
import java.lang.reflect.Modifier;
import java.nio.file.Files;
import java.nio.file.Path;
import java.util.Set;
import java.util.TreeSet;
import java.util.regex.Matcher;
import java.util.regex.Pattern;

/** What of LANGUAGE.md can be seen from the text and the class itself. */
public final class LanguageTest {
    private static int wrong = 0;

    private static void due(boolean so, String what) {
        if (!so) { wrong++; System.out.println("not so: " + what); }
    }

    public static void main(String[] args) throws Exception {
        String text = Files.readString(Path.of("src/main/java/AddressedToYou.java"));
        due(text.chars().allMatch(c -> c == '\n' || c >= 32 && c < 127), "plain signs");
        String code = text.replaceAll("(?s)/\\*.*?\\*/", " ").replaceAll("//[^\n]*", " ").replaceAll("\"[^\"\n]*\"|'.'", " T ");
        String banned = "\\b(throw|try|catch|synchronized|assert|import|package|protected|instanceof|Object|String\\.format|"
            + "System\\.(out|in|exit|nanoTime|currentTimeMillis)|Random|Thread|equals|hashCode|toString|\\w+Exact)\\b|->|::|@|\\? extends";
        Matcher m = Pattern.compile(banned).matcher(code);
        while (m.find()) due(false, "no " + m.group());

        Class<?> c = AddressedToYou.class;
        due(Modifier.isFinal(c.getModifiers()) && Modifier.isPublic(c.getModifiers()), "public and final");
        Set<String> open = new TreeSet<>();
        Set<String> face = new TreeSet<>();
        for (Method method : c.getDeclaredMethods()) {
            int mods = method.getModifiers();
            if (Modifier.isPublic(mods)) {
                open.add(method.getName());
                face.add(method.getReturnType() + " " + method.getName() + java.util.Arrays.toString(method.getParameterTypes()));
            } else {
                due(Modifier.isPrivate(mods), "private: " + method.getName());
            }
        }
        String doc = Files.readString(Path.of("../shared/DOC.md"));
        Set<String> asked = new TreeSet<>();
        Matcher f = Pattern.compile("    public (int|long) (\\w+)\\(([^)]*)\\);").matcher(doc);
        while (f.find()) {
            String types = f.group(3).isEmpty() ? "" : f.group(3).replaceAll("(int|long) \\w+", "$1");
            asked.add(f.group(1) + " " + f.group(2) + "[" + types + "]");
        }
        due(asked.equals(face) && asked.size() == 55, "the document's face: " + face + " for " + asked);
        due(c.getConstructors().length == 1 && c.getDeclaredConstructors().length == 1, "one constructor");
        for (Constructor<?> k : c.getDeclaredConstructors()) due(k.getParameterCount() == 0, "of no parameters");
        shape(c, open);
        int inside = 0;
        for (Class<?> n : c.getDeclaredClasses()) {
            inside++;
            due(Modifier.isStatic(n.getModifiers()) && !Modifier.isPublic(n.getModifiers()), "static, not public: " + n);
            shape(n, open);
            for (Method method : n.getDeclaredMethods()) due(!open.contains(method.getName()), "another name than " + method.getName());
        }
        due(inside < 12, "at most twelve classes");
        for (Method method : c.getDeclaredMethods()) {
            due(Modifier.isPublic(method.getModifiers()) || !open.contains(method.getName()), "another name than " + method.getName());
        }
        lengths(text);
        System.out.println(wrong == 0 ? "the language is kept" : wrong + " faults");
        if (wrong != 0) System.exit(1);
    }

    private static void shape(Class<?> c, Set<String> open) {
        int fields = 0;
        for (Field field : c.getDeclaredFields()) {
            int mods = field.getModifiers();
            if (Modifier.isStatic(mods)) {
                due(Modifier.isFinal(mods), "final: " + field);
                due(!Modifier.isPublic(mods) || field.getName().equals("NONE"), "not public: " + field);
            } else {
                fields++;
                if (c == AddressedToYou.class) due(Modifier.isPrivate(mods), "private: " + field);
            }
        }
        due(fields <= 20, "at most twenty fields in " + c);
        for (Method method : c.getDeclaredMethods()) due(method.getParameterCount() <= 7, "at most seven parameters: " + method);
    }

    /** No method longer than sixty lines. */
    private static void lengths(String text) {
        String[] lines = text.split("\n");
        int start = -1;
        String indent = "";
        for (int i = 0; i < lines.length; i++) {
            Matcher m = Pattern.compile("^( {4}| {8})\\S.*\\) \\{$").matcher(lines[i]);
            if (start < 0 && m.matches() && !lines[i].contains(" class ")) { start = i; indent = m.group(1); }
            if (start >= 0 && lines[i].equals(indent + "}")) {
                due(i - start < 60, "a short method from line " + (start + 1));
                start = -1;
            }
        }
    }
}
