import java.io.IOException;
import java.lang.reflect.Field;
import java.lang.reflect.Method;
import java.lang.reflect.Modifier;
import java.nio.charset.StandardCharsets;
import java.nio.file.Files;
import java.nio.file.Path;
import java.util.ArrayList;
import java.util.Arrays;
import java.util.List;
import java.util.Set;
import java.util.TreeSet;
import java.util.regex.Matcher;
import java.util.regex.Pattern;

/** The public face is the document's, and the source keeps to what LANGUAGE.md leaves, as far as words show it. */
public final class FaceTest {
    private static final List<String> FACE = List.of("feed(int, int, int, int, int) int", "end(int) boolean",
            "fault() int", "text() int", "rule(int) int", "core(int, int) int", "face(int, int, int) int",
            "link(int, int, boolean, int) int", "box(int, int, int, int, int) int", "halved(int, int) int",
            "path(int, int) int", "gone(int) int", "move(int, int, int, int) int", "go(int) int", "log(int, int) int",
            "shift(int, int, int, int) int", "shake(int, long) int", "set(int, int) int", "wall(int, int) int",
            "rid(int) int", "meets(int, int) int", "ahead(int, int) int", "rests() int", "layer(int, int) int",
            "line(int, int) int", "stills() int", "undo() int", "image() int", "back() int", "status(int) int",
            "most(int) int", "count(int) int");

    private static final Pattern METHOD = Pattern.compile("( {4}| {8})(?! |}|class|for |if |while |switch )[^=;]*\\(.*\\{");

    private FaceTest() {
    }

    public static void main(String[] args) throws IOException {
        methods();
        others();
        words();
        shapes();
        lengths();
        Check.finish("FaceTest");
    }

    private static void methods() {
        Set<String> visible = new TreeSet<>();
        Set<String> names = new TreeSet<>();
        for (Method m : SlipLattice.class.getDeclaredMethods()) {
            if (!Modifier.isPrivate(m.getModifiers())) {
                List<String> types = Arrays.stream(m.getParameterTypes()).map(Class::getName).toList();
                visible.add(m.getName() + "(" + String.join(", ", types) + ") " + m.getReturnType().getName());
                names.add(m.getName());
            }
        }
        Check.due("the visible methods are the document's: " + visible, visible.equals(new TreeSet<>(FACE)), true);
        for (Class<?> c : SlipLattice.class.getDeclaredClasses()) {
            Check.due(c.getName() + " is static", Modifier.isStatic(c.getModifiers()), true);
            for (Method m : c.getDeclaredMethods()) {
                Check.due("no method inside bears a public one's name: " + m.getName(), names.contains(m.getName()), false);
            }
        }
        for (Method m : SlipLattice.class.getDeclaredMethods()) {
            Check.due("no private one either: " + m.getName(),
                    Modifier.isPrivate(m.getModifiers()) && names.contains(m.getName()), false);
        }
    }

    private static void others() {
        Check.due("final", Modifier.isFinal(SlipLattice.class.getModifiers()), true);
        Check.due("constructors", SlipLattice.class.getDeclaredConstructors().length, 1);
        Check.due("fields that are seen", SlipLattice.class.getFields().length, 2);
        long hidden = Arrays.stream(SlipLattice.class.getDeclaredFields())
                .filter(f -> !Modifier.isPrivate(f.getModifiers())).count();
        Check.due("no other field is", hidden, 2);
        Check.due("classes", SlipLattice.class.getDeclaredClasses().length <= 12, true);
    }

    private static void words() throws IOException {
        String source = Files.readString(Path.of("src/main/java/SlipLattice.java"), StandardCharsets.UTF_8);
        for (String word : new String[] {"->", "::", "synchronized", "assert ", "finally", "catch", "Exact", "package ",
            "protected", "System.out", "Random", "nanoTime", "currentTime", "import java.util.*", "@"}) {
            Check.due("the source has " + word, source.contains(word), false);
        }
        Check.due("signs are 1 to 127", source.chars().allMatch(c -> c < 128), true);
    }

    /** Rules 5 and 11: static fields are final; a method takes seven parameters at most, a class has some twenty fields. */
    private static void shapes() {
        List<Class<?>> all = new ArrayList<>(List.of(SlipLattice.class.getDeclaredClasses()));
        all.add(SlipLattice.class);
        for (Class<?> c : all) {
            for (Method m : c.getDeclaredMethods()) {
                Check.due("parameters of " + m, m.getParameterCount() <= 7, true);
            }
            int fields = 0;
            for (Field f : c.getDeclaredFields()) {
                boolean isStatic = Modifier.isStatic(f.getModifiers());
                Check.due(f + " is final, if static", !isStatic || Modifier.isFinal(f.getModifiers()), true);
                fields += isStatic ? 0 : 1;
            }
            Check.due("fields of " + c, fields <= 20, true);
        }
    }

    /** Rule 11: methods stay short. Members of a class inside stand eight blanks in, those of the class itself four. */
    private static void lengths() throws IOException {
        int begun = 0;
        int line = 0;
        int found = 0;
        String end = "";
        for (String text : Files.readAllLines(Path.of("src/main/java/SlipLattice.java"), StandardCharsets.UTF_8)) {
            line++;
            Matcher begins = METHOD.matcher(text);
            if (begins.matches()) {
                begun = line;
                end = begins.group(1) + "}";
                found++;
            } else if (begun > 0 && text.equals(end)) {
                Check.due("the method of line " + begun + " is short", line - begun < 60, true);
                begun = 0;
            }
        }
        Check.due("methods were found", found > 100, true);
    }
}
