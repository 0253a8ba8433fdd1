import java.io.IOException;
import java.lang.reflect.Method;
import java.nio.file.Files;
import java.nio.file.Path;
import java.util.HashMap;
import java.util.Map;
import java.util.Set;
import java.util.TreeSet;
import java.util.regex.Matcher;
import java.util.regex.Pattern;

/** README.md shows calls with their answers and lists the face: the program must answer so, and the list be whole. */
public final class ReadmeTest {
    private static final Path README = Path.of("README.md");
    private static final Pattern EXAMPLE = Pattern.compile("(?:int (\\w+) = )?memory\\.(\\w+)\\((.*?)\\); +// (\\S+?):?(?: .*)?");
    private static final Pattern LISTED = Pattern.compile("\\| `(\\w+)\\((.*)\\)` \\|.*");

    private final ForkedPages memory = new ForkedPages();
    private final Map<String, Long> names = new HashMap<>();
    private int examples = 0;

    public static void main(String[] args) throws IOException, ReflectiveOperationException {
        ReadmeTest test = new ReadmeTest();
        Set<String> listed = new TreeSet<>();
        for (String line : Files.readAllLines(README)) {
            Matcher example = EXAMPLE.matcher(line);
            Matcher call = LISTED.matcher(line);
            if (example.matches()) {
                test.play(example);
            } else if (call.matches()) {
                listed.add(call.group(1) + "/" + parts(call.group(2)).length);
            } else {
                Check.due("no answer told: " + line, !line.contains("memory."));
            }
        }
        Check.due("examples", test.examples > 0);
        Check.due("listed are " + listed, listed.equals(face()));
        Check.finish();
    }

    private static Set<String> face() {
        Set<String> face = new TreeSet<>();
        for (Method method : ForkedPages.class.getMethods()) {
            if (method.getDeclaringClass() == ForkedPages.class) {
                face.add(method.getName() + "/" + method.getParameterCount());
            }
        }
        return face;
    }

    private static String[] parts(String arguments) {
        return arguments.isEmpty() ? new String[0] : arguments.split(", ");
    }

    private void play(Matcher example) throws ReflectiveOperationException {
        String[] parts = parts(example.group(3));
        for (Method method : ForkedPages.class.getMethods()) {
            if (method.getName().equals(example.group(2)) && method.getParameterCount() == parts.length) {
                long got = ((Number) method.invoke(memory, values(parts))).longValue();
                names.put(example.group(1), got);
                Check.due(example.group(), got, value(example.group(4)));
                examples++;
            }
        }
    }

    private Object[] values(String[] parts) {
        Object[] values = new Object[parts.length];
        for (int i = 0; i < parts.length; i++) {
            if (parts[i].equals("true") || parts[i].equals("false")) {
                values[i] = Boolean.valueOf(parts[i]);
            } else {
                values[i] = (int) value(parts[i]);
            }
        }
        return values;
    }

    private long value(String word) {
        if (names.containsKey(word)) {
            return names.get(word);
        }
        try {
            return Character.isUpperCase(word.charAt(0))
                ? ForkedPages.class.getField(word).getLong(null) : Long.parseLong(word);
        } catch (ReflectiveOperationException | NumberFormatException none) {
            throw new IllegalStateException("README.md tells what is neither a name nor a number: " + word, none);
        }
    }
}
