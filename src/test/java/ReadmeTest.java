import java.io.IOException;
import java.lang.reflect.InvocationTargetException;
import java.lang.reflect.Method;
import java.nio.file.Files;
import java.nio.file.Path;
import java.util.Arrays;
import java.util.HashMap;
import java.util.HashSet;
import java.util.List;
import java.util.Map;
import java.util.Set;
import java.util.regex.Matcher;
import java.util.regex.Pattern;

/** The example in README.md, line by line: each answer that stands behind a call must be the one that the class gives. */
public final class ReadmeTest {
    private static final Path README = Path.of("README.md");
    private static final String MAKING = "TonguerootFamily family = new TonguerootFamily();";
    private static final Pattern CALL =
        Pattern.compile("(?:int (\\w+) = )?family\\.(\\w+)\\((.*?)\\);\\s+// (throws \\w+|[\\w.-]+)(?::.*)?");
    private static final Pattern SHIFT = Pattern.compile("1 << (\\d+)");

    private final TonguerootFamily family = new TonguerootFamily();
    private final Map<String, Integer> names = new HashMap<>();
    private final Set<String> called = new HashSet<>();

    public static void main(String[] args) throws IOException {
        List<String> example = Files.readAllLines(README).stream().filter(line -> line.startsWith("    "))
            .map(String::strip).toList();
        int start = example.indexOf(MAKING);
        Check.due("the example makes a family", true, () -> start >= 0);
        ReadmeTest reader = new ReadmeTest();
        example.stream().skip(start + 1L).takeWhile(line -> !line.startsWith(".ci/")).forEach(reader::read);
        Check.due("the example has calls of each part of the face", true, () -> reader.called.containsAll(
            Set.of("spell", "law", "loan", "soundAt", "columnAt", "recalled", "without")));
        Check.end();
    }

    private void read(String line) {
        Matcher parts = CALL.matcher(line);
        boolean readable = parts.matches();
        Check.due("a call with its answer behind it: " + line, true, () -> readable);
        if (!readable) {
            return;
        }
        String answer = told(parts.group(2), numbers(parts.group(3)));
        Check.due(line, parts.group(4), () -> answer);
        if (parts.group(1) != null) {
            names.put(parts.group(1), Integer.valueOf(answer));
        }
    }

    private Object[] numbers(String list) {
        return Arrays.stream(list.split(", ")).filter(text -> !text.isEmpty()).map(this::number).toArray();
    }

    private Integer number(String text) {
        Matcher shift = SHIFT.matcher(text);
        if (shift.matches()) {
            return 1 << Integer.parseInt(shift.group(1));
        }
        return names.containsKey(text) ? names.get(text) : Integer.valueOf(text);
    }

    private String told(String name, Object[] numbers) {
        called.add(name);
        Method method = Arrays.stream(TonguerootFamily.class.getMethods())
            .filter(each -> each.getName().equals(name)).findAny().orElseThrow();
        try {
            return String.valueOf(method.invoke(family, numbers));
        } catch (InvocationTargetException thrown) {
            return "throws " + thrown.getCause().getClass().getSimpleName();
        } catch (IllegalAccessException thrown) {
            throw new IllegalStateException(thrown);
        }
    }
}
