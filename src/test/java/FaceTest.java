import java.io.IOException;
import java.lang.reflect.Constructor;
import java.lang.reflect.Field;
import java.lang.reflect.Method;
import java.lang.reflect.Modifier;
import java.nio.file.Files;
import java.nio.file.Path;
import java.util.ArrayList;
import java.util.List;
import java.util.TreeSet;
import java.util.regex.Matcher;
import java.util.regex.Pattern;

/** The face is the document's, and the source keeps to LANGUAGE.md as far as its words tell. */
final class FaceTest {
    private static final Path SOURCE = Path.of("src/main/java/BelievedByYard.java");
    private static final Path DOCUMENT = Path.of("../shared/DOC.md");
    private static final String[] FORBIDDEN = {"throw", "throws", "try", "catch", "finally", "synchronized", "assert",
        "import", "package", "protected", "System.out", "Math.random", "Exact", "static {", "->", "::", "equals",
        "hashCode", "toString", "var", "Object", "native", "volatile", "Thread", "interface"};

    public static void main(String[] args) throws IOException {
        face();
        source();
        Due.end();
    }

    private static void face() throws IOException {
        String document = Files.readString(DOCUMENT);
        String block = document.substring(document.indexOf("public final class"));
        block = block.substring(0, block.indexOf("```"));
        TreeSet<String> due = new TreeSet<>();
        Matcher line = Pattern.compile("public (int \\w+)\\(([^)]*)\\);").matcher(block);
        while (line.find()) {
            due.add(line.group(1) + "(" + line.group(2).replaceAll("(int|long) \\w+", "$1").replace(" ", "") + ")");
        }
        TreeSet<String> got = new TreeSet<>();
        TreeSet<String> names = new TreeSet<>();
        for (Method m : BelievedByYard.class.getDeclaredMethods()) {
            if (!Modifier.isPrivate(m.getModifiers())) {
                List<String> types = new ArrayList<>();
                for (Class<?> type : m.getParameterTypes()) {
                    types.add(type.getName());
                }
                got.add(m.getReturnType() + " " + m.getName() + "(" + String.join(",", types) + ")");
                names.add(m.getName());
                Due.isTrue(m + " is public and no more", m.getModifiers() == Modifier.PUBLIC);
            }
        }
        Due.is("methods of the face", got.size(), 39);
        Due.isTrue("the face is the document's: " + got + " for " + due, got.equals(due));
        for (Field f : BelievedByYard.class.getDeclaredFields()) {
            Due.isTrue(f + " is private and final, if static", isHidden(f));
        }
        Constructor<?>[] made = BelievedByYard.class.getDeclaredConstructors();
        Due.isTrue("one public constructor", made.length == 1 && made[0].getModifiers() == Modifier.PUBLIC);
        inside(BelievedByYard.class, names);
    }

    private static boolean isHidden(Field f) {
        int is = f.getModifiers();
        return Modifier.isPrivate(is) && (!Modifier.isStatic(is) || Modifier.isFinal(is));
    }

    private static void inside(Class<?> outer, TreeSet<String> names) {
        Class<?>[] classes = outer.getDeclaredClasses();
        Due.isTrue("at most twelve classes", classes.length < 12);
        for (Class<?> c : classes) {
            Due.isTrue(c + " is static", Modifier.isStatic(c.getModifiers()) && !Modifier.isPublic(c.getModifiers()));
            int fields = 0;
            for (Field f : c.getDeclaredFields()) {
                fields += Modifier.isStatic(f.getModifiers()) ? 0 : 1;
                Due.isTrue(f + " is private and final, if static", isHidden(f));
            }
            Due.isTrue(c + " has twenty fields at most", fields <= 20);
        }
        for (Class<?> c : new Class<?>[] {outer}) {
            for (Method m : c.getDeclaredMethods()) {
                boolean hides = Modifier.isPrivate(m.getModifiers()) && names.contains(m.getName());
                Due.isTrue(m + " bears no name of the face", !hides);
            }
        }
        for (Class<?> c : classes) {
            for (Method m : c.getDeclaredMethods()) {
                Due.isTrue(m + " bears no name of the face", !names.contains(m.getName()));
                Due.isTrue(m + " takes seven at most", m.getParameterCount() <= 7);
            }
        }
    }

    private static void source() throws IOException {
        String source = Files.readString(SOURCE);
        for (int i = 0; i < source.length(); i++) {
            if (source.charAt(i) > 126) {
                Due.is("sign " + i + " of the source", source.charAt(i), ' ');
            }
        }
        String bare = source.replaceAll("(?s)/\\*.*?\\*/", "").replaceAll("//[^\n]*", "").replaceAll("'.'", "' '");
        for (String word : FORBIDDEN) {
            boolean isWord = Character.isLetter(word.charAt(0));
            String pattern = isWord ? "\\b" + Pattern.quote(word) + (word.endsWith("{") ? "" : "\\b") : Pattern.quote(word);
            Due.isTrue("no '" + word + "' in the source", !Pattern.compile(pattern).matcher(bare).find());
        }
        Due.isTrue("no text in the source", bare.indexOf('"') < 0);
        methodsAreShort(bare);
    }

    private static void methodsAreShort(String bare) {
        int length = 0;
        String name = "";
        for (String line : bare.split("\n")) {
            if (line.matches(" {4,8}[\\w\\[\\] ]+\\([^;]*\\{")) {
                name = line.trim();
                length = 0;
            }
            length++;
            if (line.matches(" {4,8}\\}") && !name.isEmpty()) {
                Due.isTrue(name + " has sixty lines at most", length <= 60);
                name = "";
            }
        }
    }
}
