import java.io.IOException;
import java.lang.reflect.Method;
import java.lang.reflect.Modifier;
import java.nio.file.Files;
import java.nio.file.Path;
import java.util.Arrays;
import java.util.BitSet;
import java.util.LinkedHashMap;
import java.util.List;
import java.util.Map;
import java.util.Set;
import java.util.TreeSet;
import java.util.regex.Matcher;
import java.util.regex.Pattern;

/**
 * No sentence of the document's terms and promises is without a test: the words that the tests of single sentences say
 * stand in the document, and together they are all of its words. And the class has the face that the document shows.
 */
public final class DocumentTest {
    private static final Path DOCUMENT = Path.of("../shared/DOC.md");
    private static final List<Class<?>> TESTS = List.of(RefusalsTest.class, FacesEdgesTest.class, RulesEdgesTest.class,
            CallsEdgesTest.class, ExpectationsEdgesTest.class, DeskEdgesTest.class);
    private static final Check CHECK = new Check("DocumentTest");

    public static void main(String[] args) throws IOException {
        String document = Files.readString(DOCUMENT);
        Map<String, String> parts = parts(document);
        CHECK.due("parts: what it is, terms 0 to 4, promises 1 to 27", parts.size(), 1 + 5 + 27);
        Map<String, BitSet> said = new LinkedHashMap<>();
        parts.forEach((name, text) -> said.put(name, new BitSet(text.length())));
        for (Class<?> tests : TESTS) {
            for (Method test : Edges.testsOf(tests)) {
                say(test.getAnnotation(Edges.Says.class), parts, said);
            }
        }
        parts.forEach((name, text) -> CHECK.holds(name + " has a test for \"" + unsaid(text, said.get(name)) + "\"",
                unsaid(text, said.get(name)).isBlank()));
        face(between(document, "\n## The public face\n", "\n## Terms\n"));
        CHECK.end();
    }

    private static void face(String shown) {
        Set<String> due = new TreeSet<>();
        Matcher call = Pattern.compile("public int (\\w+)\\(([^)]*)\\);").matcher(shown);
        while (call.find()) {
            due.add("int " + call.group(1) + "(" + call.group(2).replaceAll(" \\w+(,|$)", "$1").replace(", ", ",") + ")");
        }
        Set<String> has = new TreeSet<>();
        for (Method method : RehearsalDesk.class.getDeclaredMethods()) {
            if (Modifier.isPublic(method.getModifiers())) {
                String types = String.join(",", Arrays.stream(method.getParameterTypes()).map(Class::getName).toList());
                has.add(method.getReturnType() + " " + method.getName() + "(" + types + ")");
            }
        }
        CHECK.due("calls of the face", due.size(), 26);
        CHECK.holds("the document's calls " + due + " are the class's " + has, due.equals(has));
    }

    private static void say(Edges.Says says, Map<String, String> parts, Map<String, BitSet> said) {
        String text = parts.getOrDefault(says.in(), "");
        int at = text.indexOf(says.words());
        CHECK.holds("\"" + says.words() + "\" stands in " + says.in(), at >= 0);
        CHECK.holds("\"" + says.words() + "\" stands there once", at == text.lastIndexOf(says.words()));
        if (at >= 0) {
            said.get(says.in()).set(at, at + says.words().length());
        }
    }

    private static String unsaid(String text, BitSet said) {
        StringBuilder rest = new StringBuilder();
        for (int i = 0; i < text.length(); i++) {
            rest.append(said.get(i) ? ' ' : text.charAt(i));
        }
        return rest.toString().strip();
    }

    /** The words of how an object is used, of the terms, part by part, and of each promise behind its signature. */
    private static Map<String, String> parts(String document) {
        Map<String, String> parts = new LinkedHashMap<>();
        String whatItIs = between(document, "\n## What it is\n", "\n## The public face\n").strip();
        // The first paragraph only names what the terms say again.
        parts.put("What it is", onOneLine(whatItIs.substring(whatItIs.indexOf("\n\n") + 1)));
        String terms = between(document, "\n## Terms\n", "\nAhead of the calls").replace("```text", "").replace("```", "");
        String[] pieces = terms.split("==== \\d ");
        for (int i = 0; i < pieces.length; i++) {
            parts.put("Terms " + i, onOneLine(pieces[i]));
        }
        Matcher promise = Pattern.compile("\n## (Promise \\d+): [^\n]*\n+`[^`]*`: ([^\n]*)").matcher(document);
        while (promise.find()) {
            parts.put(promise.group(1), onOneLine(promise.group(2)));
        }
        return parts;
    }

    private static String between(String text, String from, String to) {
        int start = text.indexOf(from);
        int end = text.indexOf(to, Math.max(start, 0));
        return start < 0 || end < 0 ? "" : text.substring(start + from.length(), end);
    }

    private static String onOneLine(String text) {
        return text.strip().replaceAll("\\s+", " ");
    }
}
