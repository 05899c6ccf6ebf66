import java.lang.reflect.InvocationTargetException;
import java.lang.reflect.Method;
import java.util.HashMap;
import java.util.Map;
import java.util.NoSuchElementException;
import java.util.regex.Matcher;
import java.util.regex.Pattern;

/**
 * Runs of calls written as text, each with the answer that is due: go(41) NONE. An answer is a number, NONE, HIDDEN,
 * true, false, or throws (a NoSuchElementException). tape "ruld" empties the tape and feeds these bytes.
 */
final class Script {
    private static final Pattern ROW = Pattern.compile("tape \"([^\"]*)\"|(\\w+)\\(([^)]*)\\) (\\S+)");
    private static final Map<String, Long> NAMES = Map.of("NONE", -1L, "HIDDEN", -1000000L, "true", 1L, "false", 0L,
            "FAR", (long) Integer.MAX_VALUE, "DEEP", (long) Integer.MIN_VALUE, "throws", Long.MIN_VALUE,
            "LONGEST", Long.MAX_VALUE, "LOWEST", Long.MIN_VALUE);
    private static final Map<String, Method> FACE = new HashMap<>();

    private Script() {
    }

    /** A new object with a crystal (or without one, if there is no text) answers as the rows say. */
    static SlipLattice says(String sentence, String crystal, String rows) {
        SlipLattice x = crystal.isEmpty() ? new SlipLattice() : Check.of(crystal);
        goOn(sentence, x, rows);
        return x;
    }

    static void goOn(String sentence, SlipLattice x, String rows) {
        Matcher row = ROW.matcher(rows);
        int behind = 0;
        while (row.find()) {
            mustBeBlank(rows.substring(behind, row.start()));
            behind = row.end();
            if (row.group(1) != null) {
                x.end(0);
                Check.feed(x, row.group(1));
            } else {
                Check.due(sentence + ": " + row.group(), answer(x, row.group(2), row.group(3)), value(row.group(4)));
            }
        }
        mustBeBlank(rows.substring(behind));
    }

    private static void mustBeBlank(String between) {
        if (!between.isBlank()) {
            throw new IllegalStateException("a test's row can't be read: " + between);
        }
    }

    private static long value(String said) {
        Long named = NAMES.get(said);
        return named != null ? named : Long.parseLong(said);
    }

    private static long answer(SlipLattice x, String name, String said) {
        Method method = face(name);
        String[] words = said.isBlank() ? new String[0] : said.split(", ");
        Class<?>[] types = method.getParameterTypes();
        Object[] arguments = new Object[words.length];
        for (int i = 0; i < words.length; i++) {
            long v = value(words[i]);
            arguments[i] = types[i] == boolean.class ? (Object) (v == 1) : types[i] == long.class ? (Object) v
                    : (Object) Math.toIntExact(v);
        }
        try {
            Object got = method.invoke(x, arguments);
            return got instanceof Boolean b ? (b ? 1 : 0) : ((Integer) got).longValue();
        } catch (InvocationTargetException e) {
            if (e.getCause() instanceof NoSuchElementException) {
                return Long.MIN_VALUE;
            }
            throw new IllegalStateException(name + " threw what no document names", e.getCause());
        } catch (IllegalAccessException e) {
            throw new IllegalStateException(e);
        }
    }

    private static Method face(String name) {
        if (FACE.isEmpty()) {
            for (Method m : SlipLattice.class.getMethods()) {
                FACE.put(m.getName(), m);
            }
        }
        Method method = FACE.get(name);
        if (method == null) {
            throw new IllegalStateException("a test calls what is not there: " + name);
        }
        return method;
    }
}
