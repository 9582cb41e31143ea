import java.lang.reflect.Method;
import java.nio.file.Files;
import java.nio.file.Path;
import java.util.regex.Matcher;
import java.util.regex.Pattern;

/** README.md names every call with its arguments and every refusal, and its example answers what it says. */
public final class ReadmeTest {
    private static int wrong = 0;
    private static int looked = 0;

    private static void due(boolean so, String what) {
        looked++;
        if (!so) { wrong++; System.out.println("README.md: " + what); }
    }

    public static void main(String[] args) throws Exception {
        String text = Files.readString(Path.of("README.md"));
        calls(text);
        for (int number = -1006; number <= -1002; number++) {
            due(text.contains("| " + number + " | "), "no row for the refusal " + number);
        }
        example(text);
        System.out.println("README.md: " + looked + " places looked at, " + wrong + " not so");
        if (wrong != 0) System.exit(1);
    }

    /** Each method of the document's face has a row of a table, with the document's names of its arguments. */
    private static void calls(String text) throws Exception {
        String doc = Files.readString(Path.of("../shared/DOC.md"));
        Matcher face = Pattern.compile("    public (?:int|long) (\\w+)\\(([^)]*)\\);").matcher(doc);
        int methods = 0;
        while (face.find()) {
            methods++;
            String call = face.group(1) + "(" + face.group(2).replaceAll("(int|long) ", "") + ")";
            due(text.contains("\n| `" + call + "` | "), "no row for " + call);
        }
        due(methods == 55, "55 calls, not " + methods);
    }

    private static void example(String text) throws Exception {
        Matcher block = Pattern.compile("(?s)```java\n(.*?)```").matcher(text);
        due(block.find(), "no example");
        AddressedToYou coast = new AddressedToYou();
        int lines = 0;
        for (String line : block.group(1).split("\n")) {
            if (line.equals("AddressedToYou coast = new AddressedToYou();")) continue;
            Matcher call = Pattern.compile("coast\\.(\\w+)\\(([-0-9, ]*)\\); +// (-?\\d+): .+").matcher(line);
            if (!call.matches()) { due(false, "not read: " + line); continue; }
            lines++;
            long answer = answered(coast, call.group(1), call.group(2));
            due(answer == Long.parseLong(call.group(3)), line + " - answered " + answer);
        }
        due(lines > 0, "an example without calls");
    }

    private static long answered(AddressedToYou coast, String name, String numbers) throws Exception {
        String[] words = numbers.isBlank() ? new String[0] : numbers.split(", *");
        for (Method method : AddressedToYou.class.getDeclaredMethods()) {
            if (!method.getName().equals(name) || method.getParameterCount() != words.length) continue;
            Object[] given = new Object[words.length];
            for (int i = 0; i < words.length; i++) {
                boolean isLong = method.getParameterTypes()[i] == long.class;
                if (isLong) given[i] = Long.parseLong(words[i]);
                else given[i] = Integer.parseInt(words[i]);
            }
            return ((Number) method.invoke(coast, given)).longValue();
        }
        due(false, "no call " + name);
        return 0;
    }
}
