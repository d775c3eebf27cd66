import java.io.IOException;
import java.lang.reflect.Field;
import java.lang.reflect.Method;
import java.lang.reflect.Modifier;
import java.nio.charset.StandardCharsets;
import java.nio.file.Files;
import java.nio.file.Path;
import java.util.Arrays;
import java.util.List;
import java.util.Set;
import java.util.TreeSet;
import java.util.regex.Matcher;
import java.util.regex.Pattern;

/** The face is the document's and no more, and the source keeps to what LANGUAGE.md lets be seen from outside. */
public final class FaceTest {
    private static final String[] FACE = {
        "int feed(int, int, int, int, int)", "boolean end(int)", "int district()", "int fault()", "int person(int, int)",
        "int burden(int, int)", "int members(int)", "int due(int, int)", "int have(int, int)", "int rest(int, int)", "int off(int)",
        "int now(int)", "int give(int, int)", "int take(int, int)", "int move(int, int)", "int leave(int)", "int come(int)",
        "int years(int)", "int undo()", "int least(int)", "int who()", "int burdens()", "int family(int)", "int familyOf()",
        "int changes(int)", "int changed()", "int house(int)", "int both(int, int)", "int spared(int, int, int)", "int counts()",
        "int surely()", "int look()", "int cut(int, int)", "int settles()", "int plate(int)", "int byteAt(int)",
        "int drawn(int, int)", "int odds(int, int, int)", "int book(int)", "int told(int)", "int sentence()", "int said(int)",
        "boolean image(int)", "boolean restore(int)", "int count(int)"};
    private static final String[] RULED_OUT = {"->", "::", "\\bcatch\\b", "\\bfinally\\b", "\\bsynchronized\\b", "\\bassert\\b",
        "\\bprotected\\b", "\\bRandom\\b", "System\\.(?!arraycopy)", "Exact\\b", "\\bdouble\\b", "\\bfloat\\b", "\\bpackage\\b"};

    public static void main(String[] args) throws IOException {
        face();
        inside();
        source();
        Calls.finish("FaceTest");
    }

    private static void face() {
        Class<?> c = OboeDistrict.class;
        Calls.due("public and final", Modifier.isPublic(c.getModifiers()) && Modifier.isFinal(c.getModifiers()), true);
        Set<String> open = new TreeSet<>();
        for (Method m : c.getDeclaredMethods()) {
            if (!Modifier.isPrivate(m.getModifiers())) {
                Calls.due(m + " is public", Modifier.isPublic(m.getModifiers()), true);
                StringBuilder types = new StringBuilder();
                for (Class<?> type : m.getParameterTypes()) {
                    types.append(types.length() > 0 ? ", " : "").append(type);
                }
                open.add(m.getReturnType() + " " + m.getName() + "(" + types + ")");
            }
        }
        Set<String> due = new TreeSet<>(Arrays.asList(FACE));
        Calls.due("methods of the face " + open, open.equals(due), true);
        for (Field f : c.getDeclaredFields()) {
            boolean isOpen = !Modifier.isPrivate(f.getModifiers());
            Calls.due("field " + f, isOpen, f.getName().equals("NONE"));
            Calls.due("static and not final: " + f, Modifier.isStatic(f.getModifiers()) && !Modifier.isFinal(f.getModifiers()), false);
        }
        Calls.due("one constructor", c.getDeclaredConstructors().length, 1);
        Calls.due("NONE", OboeDistrict.NONE, -1);
    }

    private static void inside() {
        Set<String> names = new TreeSet<>();
        for (String method : FACE) {
            names.add(method.replaceAll("^\\w+ |\\(.*", ""));
        }
        Class<?>[] classes = OboeDistrict.class.getDeclaredClasses();
        Calls.due("at most twelve classes", classes.length < 12, true);
        for (Class<?> c : classes) {
            Calls.due(c + " is static", Modifier.isStatic(c.getModifiers()), true);
            Calls.due(c + " is not public", Modifier.isPublic(c.getModifiers()), false);
            Calls.due(c + " has some twenty fields at most", c.getDeclaredFields().length <= 22, true);
            for (Method m : c.getDeclaredMethods()) {
                Calls.due(m + " bears a name of the face", names.contains(m.getName()), false);
                Calls.due(m + " has at most seven parameters", m.getParameterCount() <= 7, true);
            }
        }
    }

    private static void source() throws IOException {
        String text = new String(Files.readAllBytes(Path.of("src/main/java/OboeDistrict.java")), StandardCharsets.ISO_8859_1);
        for (String ruledOut : RULED_OUT) {
            Matcher found = Pattern.compile(ruledOut).matcher(text);
            Calls.due("source has " + ruledOut, found.find(), false);
        }
        List<String> imports = List.of("import java.util.Arrays;", "import java.util.NoSuchElementException;");
        for (String line : text.split("\n")) {
            if (line.startsWith("import")) {
                Calls.due(line, imports.contains(line), true);
            }
        }
        Calls.due("signs above 127", text.chars().anyMatch(c -> c > 127), false);
        int begins = 0;
        String[] lines = text.split("\n");
        for (int i = 0; i < lines.length; i++) {
            if (lines[i].matches(" {4}( {4})?\\S.*\\) (throws \\w+ )?\\{")) {
                begins = i;
            }
            if (lines[i].matches(" {4}( {4})?\\}")) {
                Calls.due("a short method at line " + begins, i - begins <= 60 || lines[i].equals("    }"), true);
            }
        }
    }
}
