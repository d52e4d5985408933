import java.io.IOException;
import java.lang.reflect.Method;
import java.lang.reflect.Modifier;
import java.nio.file.Files;
import java.nio.file.Path;
import java.util.ArrayList;
import java.util.Arrays;
import java.util.HashMap;
import java.util.LinkedHashMap;
import java.util.List;
import java.util.Map;
import java.util.TreeSet;
import java.util.regex.Matcher;
import java.util.regex.Pattern;

/** What README.md says of the class is what the class answers and the document says. */
public final class ReadmeTest {
    private static final Pattern MAKING =
            Pattern.compile("TroubleMemory memory = new TroubleMemory\\((-?\\d+)\\);\\s*//.*");
    private static final Pattern CALL =
            Pattern.compile("(?:int (\\w+) = )?memory\\.(\\w+)\\(([^()]*)\\);\\s*// (-?\\d+): .*");
    private static final Pattern FACE =
            Pattern.compile("public int (\\w+\\([^)]*\\));");
    private static final Pattern PROMISE =
            Pattern.compile("## Promise \\d+: \\w+\\s+`int ([^`]*)`:(.*)");
    private static final Pattern METHOD_ROW =
            Pattern.compile("\\| `(\\w+\\([^`]*\\))` \\| [^|]+ \\| ([^|]+) \\|");
    private static final Pattern BIT_ROW =
            Pattern.compile("\\| (\\d) \\| (\\d+) \\| ([^|]+) \\|");
    private static final Pattern REFUSAL = Pattern.compile("(?<!\\S)-\\d");

    private static int wrong = 0;

    public static void main(String[] args) throws IOException, ReflectiveOperationException {
        String readme = Files.readString(Path.of("README.md"));
        String doc = Files.readString(Path.of("../shared/DOC.md"));
        example(readme);
        methods(readme, doc);
        bits(readme, doc);
        if (wrong != 0) {
            System.exit(1);
        }
    }

    private static void tell(String what) {
        wrong++;
        System.out.println("README.md: " + what);
    }

    private static void example(String readme) throws ReflectiveOperationException {
        List<String> lines = exampleLines(readme);
        Matcher making = MAKING.matcher(lines.isEmpty() ? "" : lines.get(0));
        if (!making.matches()) {
            tell("no example that begins with a new object");
            return;
        }
        TroubleMemory memory = new TroubleMemory(Integer.parseInt(making.group(1)));
        Map<String, Integer> variables = new HashMap<>();
        TreeSet<String> unused = new TreeSet<>();
        for (Method method : methodsOfTheFace()) {
            unused.add(method.getName());
        }
        for (String line : lines.subList(1, lines.size())) {
            Matcher call = CALL.matcher(line);
            if (!call.matches()) {
                tell("this line does not say what is answered: " + line);
                continue;
            }
            int got = answer(memory, call.group(2), call.group(3), variables);
            if (got != Integer.parseInt(call.group(4))) {
                tell("the class answers " + got + " to " + line);
            }
            variables.put(call.group(1), got);
            unused.remove(call.group(2));
        }
        if (!unused.isEmpty()) {
            tell("the example does not use " + unused);
        }
    }

    private static List<String> exampleLines(String readme) {
        Matcher block = Pattern.compile("```java\n(.*?)```", Pattern.DOTALL).matcher(readme);
        List<String> lines = new ArrayList<>();
        while (block.find()) {
            lines.addAll(block.group(1).lines().filter(line -> !line.isBlank()).toList());
        }
        return lines;
    }

    private static List<Method> methodsOfTheFace() {
        return Arrays.stream(TroubleMemory.class.getDeclaredMethods())
                .filter(m -> Modifier.isPublic(m.getModifiers()))
                .toList();
    }

    private static int answer(TroubleMemory memory, String name, String arguments, Map<String, Integer> variables)
            throws ReflectiveOperationException {
        String[] words = arguments.isBlank() ? new String[0] : arguments.split(",\\s*");
        for (Method method : methodsOfTheFace()) {
            if (method.getName().equals(name) && method.getParameterCount() == words.length) {
                Object[] values = new Object[words.length];
                for (int i = 0; i < words.length; i++) {
                    values[i] = value(words[i], variables);
                }
                return (int) method.invoke(memory, values);
            }
        }
        throw new NoSuchMethodException(name + "(" + arguments + ")");
    }

    private static Object value(String word, Map<String, Integer> variables) {
        if (word.equals("true") || word.equals("false")) {
            return Boolean.valueOf(word);
        }
        return variables.containsKey(word) ? variables.get(word) : Integer.valueOf(word);
    }

    /** The table has each method of the document's face once, with the refusals that its promise names. */
    private static void methods(String readme, String doc) {
        Map<String, TreeSet<String>> promised = new LinkedHashMap<>();
        for (Matcher promise = PROMISE.matcher(doc); promise.find();) {
            promised.put(promise.group(1), refusals(promise.group(2)));
        }
        for (Matcher face = FACE.matcher(doc); face.find();) {
            if (!promised.containsKey(face.group(1))) {
                tell("no promise was found for " + face.group(1));
            }
        }
        Map<String, TreeSet<String>> told = new LinkedHashMap<>();
        for (Matcher row = METHOD_ROW.matcher(readme); row.find();) {
            if (told.put(row.group(1), refusals(row.group(2))) != null) {
                tell("two rows tell " + row.group(1));
            }
        }
        if (!told.equals(promised)) {
            tell("the methods and their refusals are " + told + ", the document's are " + promised);
        }
    }

    private static TreeSet<String> refusals(String text) {
        TreeSet<String> found = new TreeSet<>();
        for (Matcher refusal = REFUSAL.matcher(text); refusal.find();) {
            found.add(refusal.group());
        }
        return found;
    }

    private static void bits(String readme, String doc) {
        int rows = 0;
        for (Matcher row = BIT_ROW.matcher(readme); row.find();) {
            int bit = Integer.parseInt(row.group(1));
            if (bit != rows || Integer.parseInt(row.group(2)) != 1 << bit) {
                tell("bit " + bit + " stands wrong: " + row.group());
            }
            if (!doc.toLowerCase().contains(" " + bit + " " + row.group(3))) {
                tell("the document does not say of bit " + bit + ": " + row.group(3));
            }
            rows++;
        }
        if (rows != 8) {
            tell(rows + " bits are told, 8 are due");
        }
    }
}
