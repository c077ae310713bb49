import java.io.IOException;
import java.lang.reflect.Method;
import java.lang.reflect.Modifier;
import java.nio.file.Files;
import java.nio.file.Path;
import java.util.ArrayList;
import java.util.List;
import java.util.Set;
import java.util.TreeSet;
import java.util.regex.Matcher;
import java.util.regex.Pattern;

/** README.md: its examples answer as it says, and it tells every call and every test. */
public final class ReadmeTest {
    private static final Check C = new Check("ReadmeTest");
    private static final Pattern CALL = Pattern.compile("x\\.(\\w+)\\((.*?)\\);\\s*// (-?\\d+)(:.*)?");
    private static final Pattern TEXT = Pattern.compile("for \\(char c : \"(.*)\"\\.toCharArray\\(\\)\\) \\{");
    private static final Path TESTS = Path.of("src/test/java");

    public static void main(String[] args) throws IOException, ReflectiveOperationException {
        String page = Files.readString(Path.of("README.md"));
        Matcher examples = Pattern.compile("(?s)```java\n(.*?)```").matcher(page);
        int count = 0;
        while (examples.find()) {
            example(examples.group(1).split("\n"));
            count++;
        }
        C.due("examples", count, 3);
        calls(page);
        tests(page);
        C.end();
    }

    /** Lines as "x.room(8); // 0: words", and loops that feed a text. */
    private static void example(String[] lines) throws ReflectiveOperationException {
        BookedEmpty x = null;
        for (int i = 0; i < lines.length; i++) {
            String line = lines[i];
            Matcher text = TEXT.matcher(line);
            Matcher call = CALL.matcher(line);
            if (line.equals("BookedEmpty x = new BookedEmpty();")) {
                x = new BookedEmpty();
            } else if (text.matches()) {
                Check.feed(x, text.group(1));
                C.isTrue("a loop: " + line, lines[i + 1].equals("    x.feed(c);") && lines[i + 2].equals("}"));
                i += 2;
            } else if (call.matches()) {
                long got = answer(x, call.group(1), call.group(2).isEmpty() ? new String[0] : call.group(2).split(", "));
                C.due("\"" + line + "\"", got, Long.parseLong(call.group(3)));
            } else {
                C.isTrue("a line that is tested: " + line, false);
            }
        }
    }

    private static long answer(BookedEmpty x, String name, String[] words) throws ReflectiveOperationException {
        for (Method m : BookedEmpty.class.getMethods()) {
            if (!m.getName().equals(name) || m.getParameterCount() != words.length) {
                continue;
            }
            Object[] numbers = new Object[words.length];
            for (int i = 0; i < words.length; i++) {
                Class<?> type = m.getParameterTypes()[i];
                if (type == boolean.class) {
                    numbers[i] = Boolean.parseBoolean(words[i]);
                } else if (type == long.class) {
                    numbers[i] = Long.parseLong(words[i]);
                } else {
                    numbers[i] = Integer.parseInt(words[i]);
                }
            }
            return ((Number) m.invoke(x, numbers)).longValue();
        }
        throw new NoSuchMethodException(name);
    }

    /** The tables' first cells name every call, each with as many arguments as it has. */
    private static void calls(String page) {
        Set<String> told = new TreeSet<>();
        Matcher m = Pattern.compile("`(\\w+)\\(([\\w, ]*)\\)`").matcher(firstCells(page));
        while (m.find()) {
            told.add(m.group(1) + "/" + (m.group(2).isEmpty() ? 0 : m.group(2).split(", ").length));
        }
        Set<String> there = new TreeSet<>();
        for (Method method : BookedEmpty.class.getDeclaredMethods()) {
            if (Modifier.isPublic(method.getModifiers())) {
                there.add(method.getName() + "/" + method.getParameterCount());
            }
        }
        C.isTrue("the calls told are " + there + ": " + told, told.equals(there));
    }

    private static String firstCells(String page) {
        StringBuilder cells = new StringBuilder();
        for (String line : page.split("\n")) {
            if (line.startsWith("|")) {
                cells.append(line, 0, line.indexOf('|', 1)).append('\n');
            }
        }
        return cells.toString();
    }

    private static void tests(String page) throws IOException {
        List<String> files = new ArrayList<>();
        try (var paths = Files.list(TESTS)) {
            paths.forEach(path -> files.add(path.getFileName().toString()));
        }
        String cells = firstCells(page);
        for (String file : files) {
            if (file.endsWith("Test.java") || file.endsWith("Edges.java")) {
                String name = file.substring(0, file.length() - 5);
                C.isTrue(name + " stands in a table", cells.contains("`" + name + "`"));
            }
        }
        Matcher m = Pattern.compile("`(\\w+(Test|Edges))`").matcher(page);
        while (m.find()) {
            C.isTrue("there is " + m.group(1), files.contains(m.group(1) + ".java"));
        }
    }
}
