import java.lang.reflect.Field;
import java.lang.reflect.Method;
import java.lang.reflect.Modifier;
import java.nio.file.Files;
import java.nio.file.Path;
import java.util.ArrayList;
import java.util.List;
import java.util.Set;
import java.util.TreeSet;
import java.util.regex.Matcher;
import java.util.regex.Pattern;

/** A rough look at the rules of LANGUAGE.md that can be seen in the text or the compiled class; run from the project's root. */
public final class LanguageTest {
    private static final String FACE = "feed:5 end:1 alley:0 rule:0 place:2 can:2 stroke:2 up:1 pass:0 undo:0 won:0 wins:1 worth:1 plain:1 "
        + "again:1 lasts:0 plays:0 fair:1 chance:0 child:0 match:3 knew:2 law:2 seed:1 games:2 against:3 count:1 image:1 back:1";

    private LanguageTest() {
    }

    public static void main(String[] args) throws Exception {
        face();
        nested();
        text(Files.readString(Path.of("src/main/java/SkittleRow.java")));
        Check.finish();
    }

    private static void face() {
        Set<String> seen = new TreeSet<>();
        for (Method method : SkittleRow.class.getDeclaredMethods()) {
            if (Modifier.isPublic(method.getModifiers())) {
                seen.add(method.getName() + ":" + method.getParameterCount());
                Check.due(method.getName() + " answers an int", method.getReturnType() == int.class ? 1 : 0, 1);
            } else {
                Check.due(method.getName() + " is private", Modifier.isPrivate(method.getModifiers()) ? 1 : 0, 1);
            }
        }
        Check.due("the face is " + seen, seen.equals(new TreeSet<>(List.of(FACE.split(" ")))) ? 1 : 0, 1);
        for (Field field : SkittleRow.class.getDeclaredFields()) {
            boolean isNone = field.getName().equals("NONE");
            Check.due(field.getName() + " is seen", Modifier.isPrivate(field.getModifiers()) ? 0 : 1, isNone ? 1 : 0);
        }
        Check.due("constructors", SkittleRow.class.getDeclaredConstructors().length, 1);
        Check.due("NONE", SkittleRow.NONE, -1);
    }

    private static void nested() {
        Class<?>[] inside = SkittleRow.class.getDeclaredClasses();
        Check.due("too many classes", inside.length + 1 > 12 ? inside.length + 1 : 0, 0);
        List<Class<?>> all = new ArrayList<>(List.of(inside));
        all.add(SkittleRow.class);
        for (Class<?> c : all) {
            int own = 0;
            for (Field field : c.getDeclaredFields()) {
                boolean isStatic = Modifier.isStatic(field.getModifiers());
                own += isStatic ? 0 : 1;
                Check.due(c + "." + field.getName() + " static and not final", isStatic && !Modifier.isFinal(field.getModifiers()) ? 1 : 0, 0);
            }
            Check.due("fields of " + c, own > 20 ? own : 0, 0);
            for (Method method : c.getDeclaredMethods()) {
                Check.due(c + "." + method.getName() + " has too many parameters", method.getParameterCount() > 7 ? 1 : 0, 0);
                boolean borrowed = c != SkittleRow.class && FACE.contains(method.getName() + ":");
                Check.due(c + "." + method.getName() + " bears a name of the face", borrowed ? 1 : 0, 0);
            }
        }
    }

    private static void text(String source) {
        String code = source.replaceAll("(?s)/\\*.*?\\*/", " ").replaceAll("//[^\n]*", " ").replaceAll("\"[^\"\n]*\"", "\"\"");
        String[] banned = {
            "throw", "try", "catch", "synchronized", "assert", "import", "package", "->", "::", "Exact", "Object", "System\\.(?!arraycopy)", "protected",
            "equals", "hashCode", "toString", "native", "volatile", "Thread", "goto", "float", "double"
        };
        for (String word : banned) {
            Matcher found = Pattern.compile(Character.isLetter(word.charAt(0)) ? "\\b" + word : word).matcher(code);
            Check.due("'" + word + "' in the text", found.find() ? 1 : 0, 0);
        }
        for (char c : source.toCharArray()) {
            if (c > 126 || c < 32 && c != '\n') {
                Check.due("a sign of the text", c, 0);
            }
        }
        lengths(code);
    }

    /** A method's lines, from the line that ends with { to the } that stands as far in. */
    private static void lengths(String code) {
        String[] lines = code.split("\n", -1);
        for (int i = 0; i < lines.length; i++) {
            Matcher head = Pattern.compile("^( +)[a-zA-Z].*\\) \\{$").matcher(lines[i]);
            if (head.find() && head.group(1).length() <= 8) {
                int stop = i;
                while (stop < lines.length - 1 && !lines[stop].equals(head.group(1) + "}")) {
                    stop++;
                }
                Check.due("lines of " + lines[i].trim(), stop - i + 1 > 60 ? stop - i + 1 : 0, 0);
            }
        }
    }
}
