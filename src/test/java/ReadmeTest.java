import java.io.IOException;
import java.lang.reflect.Method;
import java.nio.charset.StandardCharsets;
import java.nio.file.Files;
import java.nio.file.Path;
import java.util.regex.Matcher;
import java.util.regex.Pattern;

/** The calls that README.md shows answer what it says of them. */
public final class ReadmeTest {
    private static final Pattern PUT = Pattern.compile("put\\(x, \"(.*)\"\\);");
    private static final Pattern CALL = Pattern.compile("x\\.(\\w+)\\((.*)\\); +// (-?\\d+|true|false)\\b.*");
    private static final int FEWEST_CALLS = 30;

    private static OboeDistrict x;
    private static int calls = 0;

    public static void main(String[] args) throws IOException, ReflectiveOperationException {
        String page = new String(Files.readAllBytes(Path.of("README.md")), StandardCharsets.UTF_8);
        for (String line : page.split("\n")) {
            readLine(line);
        }
        Calls.due("README.md shows enough calls", calls >= FEWEST_CALLS, true);
        for (String named : new String[] {"DOC.md", "LANGUAGE.md", "    .ci/run\n", "src/main/java/OboeDistrict.java"}) {
            Calls.due("README.md names " + named, page.contains(named), true);
        }
        eachTestIsNamed(page);
        Calls.finish("ReadmeTest");
    }

    private static void readLine(String line) throws ReflectiveOperationException {
        if (line.equals("OboeDistrict x = new OboeDistrict();")) {
            x = new OboeDistrict();
        }
        // Before that line the page shows how to put a text, not calls with answers.
        if (x == null) {
            return;
        }
        Matcher put = PUT.matcher(line);
        Matcher call = CALL.matcher(line);
        if (put.matches()) {
            Calls.tell(x, withNumberedSigns(put.group(1)));
        } else if (call.matches()) {
            calls++;
            String got = String.valueOf(answer(call.group(1), call.group(2)));
            Calls.due(line + " but it is " + got + ": as README.md says", got.equals(call.group(3)), true);
        } else {
            Calls.due("README.md says what is answered: " + line, line.startsWith("x."), false);
        }
    }

    /** A backslash and a digit is the sign of that number. */
    private static String withNumberedSigns(String text) {
        StringBuilder signs = new StringBuilder();
        for (int i = 0; i < text.length(); i++) {
            boolean isNumbered = text.charAt(i) == '\\' && i + 1 < text.length();
            signs.append(isNumbered ? (char) (text.charAt(++i) - '0') : text.charAt(i));
        }
        return signs.toString();
    }

    private static Object answer(String name, String list) throws ReflectiveOperationException {
        String[] parts = list.isEmpty() ? new String[0] : list.split(", ");
        Class<?>[] types = new Class<?>[parts.length];
        Object[] numbers = new Object[parts.length];
        for (int i = 0; i < parts.length; i++) {
            types[i] = int.class;
            numbers[i] = Integer.valueOf(parts[i]);
        }
        Method method = OboeDistrict.class.getMethod(name, types);
        return method.invoke(x, numbers);
    }

    private static void eachTestIsNamed(String page) throws IOException {
        try (var files = Files.list(Path.of("src/test/java"))) {
            files.map(file -> file.getFileName().toString()).filter(name -> name.endsWith("Test.java"))
                    .forEach(name -> Calls.due("README.md names " + name, page.contains("`" + name.replace(".java", "") + "`"), true));
        }
    }
}
