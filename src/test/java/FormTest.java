import java.io.IOException;
import java.lang.reflect.Constructor;
import java.lang.reflect.Field;
import java.lang.reflect.Method;
import java.lang.reflect.Modifier;
import java.nio.file.Files;
import java.nio.file.Path;
import java.util.ArrayList;
import java.util.Arrays;
import java.util.List;
import java.util.TreeSet;
import java.util.regex.Matcher;
import java.util.regex.Pattern;

/** The form that ../shared/LANGUAGE.md asks for, as far as it can be read off simply. Takes the source's path. */
public final class FormTest {
    private static final List<String> FACE = List.of(
            "int lattice(int, int, int)", "int seed(int)", "int mark(int, int)", "int pin(int)", "int work(int, int)",
            "int misfit(int, int, int)", "int etch(int)", "int heat(int, int)", "int roll(int)", "int born(int)",
            "int curve(int, int)", "int cool(int, int, int)", "int soften()", "int furnace(int)",
            "int ofCell(int, int)", "int ofGrain(int, int)", "int metal(int)", "int change(int, int)",
            "int texture(int)", "int wall(int, int)", "int line(int, boolean)", "int sided(int)", "String picture()",
            "String etched()", "int wouldHeat(int, int, int)", "int best(int, boolean)", "int least(int, boolean)",
            "int wouldCool(int, int, int)", "boolean isSound()", "long digest()");
    private static final List<String> FORBIDDEN = List.of("->", "::", "\\bcatch\\b", "\\btry\\b", "\\bfinally\\b",
            "\\bassert\\b", "\\bsynchronized\\b", "\\bpackage\\b", "Exact\\b", "System\\.(?!arraycopy\\()",
            "\\binstanceof\\b", "\\bvar\\b", "String\\.",
            "Integer\\.(?!bitCount\\()", "Math\\.(?!min\\(|max\\(|abs\\()", "@\\w+");

    private FormTest() {
    }

    public static void main(String[] args) throws IOException {
        face();
        inside();
        text(Files.readString(Path.of(args[0])));
        Check.end("FormTest");
    }

    private static void face() {
        List<String> found = new ArrayList<>();
        for (Method method : Grainwright.class.getDeclaredMethods()) {
            int modifiers = method.getModifiers();
            if (Modifier.isPublic(modifiers)) {
                List<String> types = Arrays.stream(method.getParameterTypes()).map(Class::getSimpleName).toList();
                String result = method.getReturnType().getSimpleName();
                found.add(result + " " + method.getName() + "(" + String.join(", ", types) + ")");
            } else if (!Modifier.isPrivate(modifiers)) {
                Check.tell(method + " is neither public nor private");
            }
        }
        Check.due("the face", new TreeSet<>(found).toString(), new TreeSet<>(FACE).toString());
        Check.due("no name twice", found.size(), FACE.size());
        for (Field field : Grainwright.class.getDeclaredFields()) {
            Check.due(field + " is private", Modifier.isPrivate(field.getModifiers()), true);
        }
        Constructor<?>[] constructors = Grainwright.class.getDeclaredConstructors();
        Check.due("constructors", constructors.length, 1);
        Check.due("the constructor is public", Modifier.isPublic(constructors[0].getModifiers()), true);
        Check.due("final", Modifier.isFinal(Grainwright.class.getModifiers()), true);
    }

    private static void inside() {
        Class<?>[] classes = Grainwright.class.getDeclaredClasses();
        Check.due("at most twelve classes", classes.length <= 12, true);
        for (Class<?> one : classes) {
            Check.due(one + " is static", Modifier.isStatic(one.getModifiers()), true);
            int fields = 0;
            for (Field field : one.getDeclaredFields()) {
                fields += Modifier.isStatic(field.getModifiers()) ? 0 : 1;
            }
            Check.due(one + " has at most twenty fields", fields <= 20, true);
            for (Method method : one.getDeclaredMethods()) {
                boolean isOfFace = FACE.stream().anyMatch(f -> f.contains(" " + method.getName() + "("));
                Check.due(method + " bears a name of the face", isOfFace, false);
            }
        }
    }

    private static void text(String source) {
        String bare = source.replaceAll("(?s)/\\*.*?\\*/", "").replaceAll("//[^\n]*", "").replaceAll("'.'", "' '");
        for (String word : FORBIDDEN) {
            Matcher matcher = Pattern.compile(word).matcher(bare);
            Check.due("the source has " + word, matcher.find(), false);
        }
        Matcher imports = Pattern.compile("import ([\\w.]+);").matcher(bare);
        while (imports.find()) {
            Check.due("import", imports.group(1), "java.util.Arrays");
        }
        Matcher throwing = Pattern.compile("throw (.*?);").matcher(bare);
        while (throwing.find()) {
            String plain = "new (IllegalArgument|IllegalState|IndexOutOfBounds)Exception\\(\\)";
            Check.due(throwing.group() + " is plain", throwing.group(1).matches(plain), true);
        }
        lengths(source);
    }

    /** A method begins and ends with the only lines that are indented as it is. */
    private static void lengths(String source) {
        String begin = "";
        int length = 0;
        for (String line : source.split("\n")) {
            if (line.matches("( {4}| {8})\\w.*\\{") && !line.contains(" class ")) {
                begin = line;
                length = 0;
            }
            length++;
            if (line.matches("( {4}| {8})\\}") && length > 60) {
                Check.tell(begin.trim() + " has " + length + " lines");
            }
        }
    }
}
