import java.io.IOException;
import java.lang.reflect.Method;
import java.nio.file.Files;
import java.nio.file.Path;
import java.util.BitSet;
import java.util.EnumSet;
import java.util.LinkedHashMap;
import java.util.Map;
import java.util.Set;

/** Each word of the document's terms and promises stands in a sentence that a test holds. */
public final class SentencesTest {
    private static final Path DOC = Path.of("../shared/DOC.md");
    private static final Map<String, String> sections = new LinkedHashMap<>();
    private static final Map<String, BitSet> named = new LinkedHashMap<>();
    private static int wrong = 0;

    public static void main(String[] args) throws IOException {
        readSections(Files.readString(DOC));
        for (Sentence each : Sentence.values()) {
            nameIn(sectionOf(each), each);
        }
        sections.keySet().stream()
                .filter(s -> s.equals("Terms") || s.startsWith("Promise"))
                .forEach(SentencesTest::tellWhatIsNotNamed);
        tellWhatHasNoTest();
        if (wrong != 0) {
            System.exit(1);
        }
    }

    private static void tell(String what) {
        wrong++;
        System.out.println(what);
    }

    /** The bodies, in one line each, without what shows code. */
    private static void readSections(String doc) {
        for (String section : doc.split("\n## ")) {
            int end = section.indexOf('\n');
            String title = section.substring(0, end).replaceFirst("^(Promise \\d+):.*", "$1");
            String body = section.substring(end)
                    .replaceAll("```\\w*", " ")
                    .replaceAll("`[^`]*`:", " ")
                    .replaceAll("\\s+", " ")
                    .trim();
            sections.put(title, body);
            named.put(title, new BitSet());
        }
    }

    private static String sectionOf(Sentence sentence) {
        String[] titles = {"Promise " + sentence.promise, "Terms", "What it is"};
        for (String title : titles) {
            if (sections.getOrDefault(title, "").contains(sentence.words)) {
                return title;
            }
        }
        tell("the document does not say: " + sentence);
        return "Terms";
    }

    private static void nameIn(String title, Sentence sentence) {
        String body = sections.get(title);
        for (int at = body.indexOf(sentence.words); at >= 0; at = body.indexOf(sentence.words, at + 1)) {
            named.get(title).set(at, at + sentence.words.length());
        }
    }

    private static void tellWhatIsNotNamed(String title) {
        String body = sections.get(title);
        StringBuilder left = new StringBuilder();
        for (int i = 0; i < body.length(); i++) {
            if (!named.get(title).get(i) && body.charAt(i) != ' ') {
                left.append(body.charAt(i));
            }
        }
        if (left.length() > 0) {
            tell("no sentence has these words of " + title + ": " + left);
        }
    }

    private static void tellWhatHasNoTest() {
        Set<Sentence> untested = EnumSet.allOf(Sentence.class);
        for (Class<?> tests : Edges.TESTS) {
            for (Method test : Edges.testsOf(tests)) {
                untested.remove(test.getAnnotation(Holds.class).value());
            }
        }
        untested.forEach(each -> tell("no test holds " + each));
    }
}
