import java.io.IOException;
import java.lang.reflect.Field;
import java.lang.reflect.Method;
import java.lang.reflect.Modifier;
import java.nio.file.Files;
import java.nio.file.Path;
import java.util.ArrayList;
import java.util.Arrays;
import java.util.LinkedHashMap;
import java.util.List;
import java.util.Map;
import java.util.Set;
import java.util.TreeSet;
import java.util.regex.Matcher;
import java.util.regex.Pattern;
import java.util.stream.Collectors;
import java.util.stream.Stream;

/** README.md has an example of each group of calls, and what it says of answers, constants and tests is so. */
public final class ReadmeTest {
    private static final Due DUE = new Due();
    private static final Pattern CALL = Pattern.compile("x\\.(\\w+)\\(([^()]*)\\); +// (-?\\d+|[A-Z]+)(:.*)?");
    private static final String NEW_OBJECT = "SandPicture x = new SandPicture();";

    public static void main(String[] args) throws Exception {
        Path readme = Path.of(System.getProperty("readme", "README.md"));
        List<String> lines = Files.readAllLines(readme);
        Map<String, List<String>> examples = examples(lines);
        DUE.part("groups");
        groups(examples);
        for (Map.Entry<String, List<String>> group : examples.entrySet()) {
            DUE.part(group.getKey());
            makeCalls(group.getValue());
        }
        DUE.part("constants");
        constants(lines);
        DUE.part("tests");
        tests(lines, Path.of(System.getProperty("source", "src/main/java/SandPicture.java")));
        DUE.end();
    }

    /** The document's groups in its order, with their calls. */
    private static Map<String, String> dueGroups() {
        Map<String, String> due = new LinkedHashMap<>();
        due.put("monks, tables", "monk told does as turns set table need river wind deal seed");
        due.put("hours", "hours grains sneeze");
        due.put("what will be", "behind lacks dry goes blamed never slower paced fine");
        due.put("texts", "feed trim text textTold why");
        due.put("sheets, slots", "sheet mark pour reads copy lay ask item rest");
        due.put("rows, images", "tell check keep back count");
        return due;
    }

    /** The lines of code below each head '### ..'. */
    private static Map<String, List<String>> examples(List<String> lines) {
        Map<String, List<String>> found = new LinkedHashMap<>();
        String head = "";
        boolean code = false;
        for (String line : lines) {
            if (line.startsWith("```")) {
                code = line.equals("```java");
            } else if (line.startsWith("#")) {
                head = line.replaceFirst("#+ ", "");
            } else if (code) {
                found.computeIfAbsent(head, h -> new ArrayList<>()).add(line);
            }
        }
        return found;
    }

    private static void groups(Map<String, List<String>> examples) {
        Map<String, String> due = dueGroups();
        DUE.is("the heads are the document's groups, by order",
            List.copyOf(examples.keySet()).equals(List.copyOf(due.keySet())) ? 1 : 0, 1);
        for (Map.Entry<String, String> group : due.entrySet()) {
            String code = String.join("\n", examples.getOrDefault(group.getKey(), List.of()));
            for (String call : group.getValue().split(" ")) {
                DUE.is(call + " stands below " + group.getKey(), code.contains("x." + call + "(") ? 1 : 0, 1);
            }
        }
        Set<String> all = new TreeSet<>(Arrays.asList(String.join(" ", due.values()).split(" ")));
        Set<String> face = Arrays.stream(SandPicture.class.getDeclaredMethods()).filter(m -> Modifier.isPublic(m.getModifiers()))
            .map(Method::getName).collect(Collectors.toCollection(TreeSet::new));
        DUE.is("the groups have all calls", all.equals(face) ? 1 : 0, 1);
    }

    private static void makeCalls(List<String> code) throws ReflectiveOperationException {
        DUE.is("it begins with a new object", code.get(0).equals(NEW_OBJECT) ? 1 : 0, 1);
        DUE.is("it has calls", code.size() > 1 ? 1 : 0, 1);
        SandPicture x = new SandPicture();
        for (String line : code.subList(1, code.size())) {
            Matcher m = CALL.matcher(line);
            boolean readable = m.matches();
            DUE.is("[" + line + "] is a call with its answer", readable ? 1 : 0, 1);
            if (readable) {
                DUE.is(line, answer(x, m.group(1), m.group(2)), number(m.group(3)));
            }
        }
    }

    private static int answer(SandPicture x, String name, String args) throws ReflectiveOperationException {
        String[] given = args.isEmpty() ? new String[0] : args.split(", ");
        Class<?>[] types = new Class<?>[given.length];
        Object[] values = new Object[given.length];
        for (int i = 0; i < given.length; i++) {
            types[i] = int.class;
            values[i] = number(given[i].replaceFirst("^SandPicture\\.", ""));
        }
        return (Integer) SandPicture.class.getMethod(name, types).invoke(x, values);
    }

    /** A whole number as Java writes it, or a constant of the class. */
    private static int number(String word) throws ReflectiveOperationException {
        return word.matches("[A-Z]+") ? SandPicture.class.getField(word).getInt(null) : Integer.decode(word);
    }

    private static void constants(List<String> lines) throws ReflectiveOperationException {
        String page = String.join("\n", lines);
        for (Field f : SandPicture.class.getFields()) {
            DUE.is(f.getName() + " has its row", page.contains("| `" + f.getName() + "` | " + f.getInt(null) + " |") ? 1 : 0, 1);
        }
        DUE.is("rows of constants", lines.stream().filter(l -> l.startsWith("| `")).count(), SandPicture.class.getFields().length);
    }

    /** The page names every test of the project, and none that is not there. */
    private static void tests(List<String> lines, Path source) throws IOException {
        Set<String> named = new TreeSet<>();
        Matcher m = Pattern.compile("`(\\w+Test)`").matcher(String.join("\n", lines));
        while (m.find()) {
            named.add(m.group(1));
        }
        Path folder = source.toAbsolutePath().getParent().resolve("../../test/java").normalize();
        try (Stream<Path> files = Files.list(folder)) {
            Set<String> there = files.map(f -> f.getFileName().toString()).filter(f -> f.endsWith("Test.java"))
                .map(f -> f.replace(".java", "")).collect(Collectors.toCollection(TreeSet::new));
            DUE.is("tests named " + named + ", there are " + there, named.equals(there) ? 1 : 0, 1);
        }
    }
}
