import java.io.IOException;
import java.lang.reflect.Constructor;
import java.lang.reflect.Field;
import java.lang.reflect.Method;
import java.lang.reflect.Modifier;
import java.nio.file.Files;
import java.nio.file.Path;
import java.util.Arrays;
import java.util.Set;
import java.util.TreeSet;
import java.util.regex.Pattern;

/** The class has the document's face and no other, and none of the words that LANGUAGE.md rules out. */
public final class LanguageTest {
    private static final Check CHECK = new Check("LanguageTest");
    private static final String[] FACE = {
        "face(int)", "method(int,int,int,int,int)", "stand(int,int)", "of(int,int)", "level(int)", "rule(int,int)",
        "on(int,int,int,int,int)", "answer(int,int,int)", "caught(int,int)", "call(int,int,int,int,int)", "came(int)",
        "recorded(int,int)", "expect(int,int,int,int)", "with(int,int,int,int,int)", "order(int,int)",
        "beside(int,boolean)", "met(int)", "verify()", "wrong(int,int)", "cue(int,int,int,int)", "clear()", "run(int)",
        "desk(int)", "told(int)", "count(int)", "forget()",
    };

    public static void main(String[] args) throws IOException {
        face();
        nested();
        words(Files.readString(Path.of("src/main/java/RehearsalDesk.java")));
        CHECK.end();
    }

    private static void face() {
        Class<?> type = RehearsalDesk.class;
        CHECK.holds("public and final", type.getModifiers() == (Modifier.PUBLIC | Modifier.FINAL));
        CHECK.due("BAD", RehearsalDesk.BAD, -1);
        CHECK.due("NOT", RehearsalDesk.NOT, -2);
        CHECK.due("FULL", RehearsalDesk.FULL, -3);
        CHECK.due("SPENT", RehearsalDesk.SPENT, -4);
        Set<String> methods = new TreeSet<>();
        Set<String> hidden = new TreeSet<>();
        for (Method m : type.getDeclaredMethods()) {
            if (Modifier.isPrivate(m.getModifiers())) {
                hidden.add(m.getName());
                continue;
            }
            String parameters = String.join(",", Arrays.stream(m.getParameterTypes()).map(Class::getName).toList());
            methods.add(m.getName() + "(" + parameters + ")");
            CHECK.holds(m + " is public, gives an int", Modifier.isPublic(m.getModifiers()) && m.getReturnType() == int.class);
        }
        CHECK.holds("the methods are " + methods, methods.equals(new TreeSet<>(Arrays.asList(FACE))));
        for (Method m : type.getMethods()) {
            CHECK.holds(m.getName() + " is no private method's name too", !hidden.contains(m.getName()));
        }
        Set<String> fields = new TreeSet<>();
        for (Field f : type.getDeclaredFields()) {
            if (!Modifier.isPrivate(f.getModifiers())) {
                fields.add(f.getName());
            }
        }
        CHECK.holds("the constants are " + fields, fields.equals(Set.of("BAD", "NOT", "FULL", "SPENT")));
        Constructor<?>[] made = type.getDeclaredConstructors();
        CHECK.holds("one public constructor", made.length == 1 && Modifier.isPublic(made[0].getModifiers()));
    }

    private static void nested() {
        Class<?>[] classes = RehearsalDesk.class.getDeclaredClasses();
        CHECK.holds("at most some twelve classes", classes.length < 12);
        for (Class<?> c : classes) {
            CHECK.holds(c + " is static", Modifier.isStatic(c.getModifiers()));
            CHECK.holds(c + " is not public", (c.getModifiers() & (Modifier.PUBLIC | Modifier.PROTECTED)) == 0);
            int fields = 0;
            for (Field f : c.getDeclaredFields()) {
                boolean isStatic = Modifier.isStatic(f.getModifiers());
                CHECK.holds(f + " is final, if static", !isStatic || Modifier.isFinal(f.getModifiers()));
                fields += isStatic ? 0 : 1;
            }
            CHECK.holds(c + " has at most twenty fields", fields <= 20);
            for (Method m : c.getDeclaredMethods()) {
                CHECK.holds(m + " has at most seven parameters", m.getParameterCount() <= 7);
                CHECK.holds(m + " does not bear a public name", Arrays.stream(FACE).noneMatch(f -> f.startsWith(m.getName() + "(")));
            }
        }
    }

    private static void words(String source) {
        String code = source.replaceAll("(?s)/\\*.*?\\*/", " ").replaceAll("//[^\n]*", " ");
        String[] ruledOut = {
            "throw", "throws", "try", "catch", "finally", "synchronized", "assert", "package", "native", "volatile",
            "Thread", "System\\.(?!arraycopy)\\w+", "Math\\.\\w+Exact", "hashCode", "equals", "toString", "double", "float",
            "java\\.(?!util\\.Arrays;)\\w+", "Integer\\.\\w+_VALUE",
        };
        for (String word : ruledOut) {
            CHECK.holds("no " + word, !Pattern.compile("\\b" + word + "\\b").matcher(code).find());
        }
        CHECK.holds("no lambda", !code.contains("->"));
        CHECK.holds("no method reference", !code.contains("::"));
        CHECK.holds("no text", !code.contains("\""));
        CHECK.holds("no static block", !Pattern.compile("static\\s*\\{").matcher(code).find());
        CHECK.holds("nothing is made but by constructors and rows",
                !Pattern.compile("(?m)^ {12,}.*\\bnew\\b").matcher(code.replaceAll("(?m)^ {12}\\w+ = new int\\[most( \\* PARAMETERS)?\\];$", "")).find());
        CHECK.holds("characters 0 to 255 alone", source.chars().allMatch(c -> c < 256));
    }
}
