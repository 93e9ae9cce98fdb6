import java.io.IOException;
import java.lang.reflect.Constructor;
import java.lang.reflect.Field;
import java.lang.reflect.Method;
import java.lang.reflect.Modifier;
import java.nio.file.Files;
import java.nio.file.Path;
import java.util.Arrays;
import java.util.HashSet;
import java.util.Set;
import java.util.TreeSet;
import java.util.regex.Matcher;
import java.util.regex.Pattern;

/** The rules of LANGUAGE.md that can be seen in the class or in its text. Run from the project's folder. */
public final class RulesTest {
    private static final Check CHECK = new Check("RulesTest");
    private static final Path SOURCE = Path.of("src/main/java/PlainAsk.java");

    private static final String[] METHODS = {"table 1", "row 1", "put 4", "value 3", "link 3", "mean 5", "cost 2",
        "forget 1", "word 1", "number 1", "clear 0", "readings 0", "reading 2", "test 3", "answer 1", "found 2",
        "answers 1", "back 1", "agree 3", "take 1", "why 1", "count 1"};
    private static final String[] CONSTANTS = {"NONE", "FULL", "STATE", "NOTHING", "NO_VALUE"};
    private static final String[] BANNED = {"throw", "try", "catch", "synchronized", "assert", "finally", "goto",
        "package", "protected", "Object", "Random", "Thread", "System.out", "Exact", "hashCode", "toString",
        "abstract", "native", "volatile", "transient"};

    public static void main(String[] args) throws IOException {
        face();
        nested();
        String code = withoutComments(Files.readString(SOURCE));
        text(code);
        methodLengths(code);
        CHECK.end();
    }

    private static void face() {
        Class<?> face = PlainAsk.class;
        CHECK.due("public and final", face.getModifiers(), Modifier.PUBLIC | Modifier.FINAL);
        Set<String> methods = new TreeSet<>();
        for (Method m : face.getDeclaredMethods()) {
            if (Modifier.isPrivate(m.getModifiers())) {
                continue;
            }
            CHECK.due("modifiers of " + m.getName(), m.getModifiers(), Modifier.PUBLIC);
            CHECK.holds("int of ints: " + m, m.getReturnType() == int.class
                && Arrays.stream(m.getParameterTypes()).allMatch(t -> t == int.class));
            methods.add(m.getName() + " " + m.getParameterCount());
        }
        CHECK.holds("the document's methods", methods.equals(new TreeSet<>(Arrays.asList(METHODS))));
        Set<String> constants = new HashSet<>();
        for (Field f : face.getDeclaredFields()) {
            if (!Modifier.isPrivate(f.getModifiers())) {
                CHECK.due("modifiers of " + f.getName(), f.getModifiers(),
                    Modifier.PUBLIC | Modifier.STATIC | Modifier.FINAL);
                constants.add(f.getName());
            }
        }
        CHECK.holds("the document's constants", constants.equals(new HashSet<>(Arrays.asList(CONSTANTS))));
        Constructor<?>[] constructors = face.getDeclaredConstructors();
        CHECK.due("constructors", constructors.length, 1);
        CHECK.due("its parameters", constructors[0].getParameterCount(), 0);
        CHECK.due("its modifiers", constructors[0].getModifiers(), Modifier.PUBLIC);
    }

    private static void nested() {
        Set<String> names = new HashSet<>();
        for (String method : METHODS) {
            names.add(method.substring(0, method.indexOf(' ')));
        }
        Class<?>[] inside = PlainAsk.class.getDeclaredClasses();
        CHECK.holds("at most twelve classes", inside.length < 12);
        for (Class<?> c : inside) {
            CHECK.holds(c + " is static", Modifier.isStatic(c.getModifiers()));
            CHECK.holds(c + " is not public", !Modifier.isPublic(c.getModifiers()));
            fields(c);
            for (Method m : c.getDeclaredMethods()) {
                CHECK.holds(m + " bears no public name", !names.contains(m.getName()));
                CHECK.holds(m + " takes at most seven", m.getParameterCount() <= 7);
            }
        }
        fields(PlainAsk.class);
        for (Method m : PlainAsk.class.getDeclaredMethods()) {
            CHECK.holds(m + " bears no public name",
                !Modifier.isPrivate(m.getModifiers()) || !names.contains(m.getName()));
        }
    }

    private static void fields(Class<?> c) {
        int own = 0;
        for (Field f : c.getDeclaredFields()) {
            if (Modifier.isStatic(f.getModifiers())) {
                CHECK.holds(f + " is a constant", Modifier.isFinal(f.getModifiers()) && f.getType() == int.class);
            } else {
                own++;
                CHECK.holds(f + " is private", Modifier.isPrivate(f.getModifiers()));
            }
        }
        CHECK.holds(c + " has at most twenty fields", own <= 20);
    }

    private static String withoutComments(String text) {
        return text.replaceAll("(?s)/\\*.*?\\*/", "").replaceAll("//[^\n]*", "");
    }

    private static void text(String code) {
        for (String word : BANNED) {
            CHECK.holds("no '" + word + "'", !Pattern.compile("\\b" + Pattern.quote(word) + "\\b").matcher(code).find());
        }
        CHECK.holds("no lambda, no arrow", !code.contains("->"));
        CHECK.holds("no method reference", !code.contains("::"));
        CHECK.holds("no static block", !Pattern.compile("static\\s*\\{").matcher(code).find());
        CHECK.holds("no text", !code.contains("\""));
        Matcher imports = Pattern.compile("import\\s+([\\w.*]+);").matcher(code);
        while (imports.find()) {
            CHECK.holds("import of " + imports.group(1), imports.group(1).equals("java.util.Arrays"));
        }
        Matcher library = Pattern.compile("\\b(Arrays|Math|Integer|Long|System)\\.(\\w+)").matcher(code);
        Set<String> may = new HashSet<>(Arrays.asList("Arrays.fill", "Math.max", "Math.min", "Integer.bitCount",
            "Integer.compare"));
        while (library.find()) {
            CHECK.holds("the library's " + library.group(), may.contains(library.group()));
        }
        // A call that makes objects would fill the room: all of them are made with the object.
        Matcher makes = Pattern.compile("\\n( +)(.*)\\bnew ").matcher(code);
        while (makes.find()) {
            boolean field = makes.group(2).startsWith("private");
            boolean constructor = makes.group(2).matches("\\w+ = ");
            CHECK.holds("made with the object: " + makes.group(2), field || constructor);
        }
    }

    private static void methodLengths(String code) {
        String[] lines = code.split("\n");
        Pattern head = Pattern.compile("^( {4}| {8})(?! )[\\w\\[\\]. ]+\\([^;]*\\) \\{$");
        int start = -1;
        String close = "";
        for (int i = 0; i < lines.length; i++) {
            Matcher m = head.matcher(lines[i]);
            if (start < 0 && m.find()) {
                start = i;
                close = m.group(1) + "}";
            } else if (start >= 0 && lines[i].equals(close)) {
                CHECK.holds("sixty lines at most from line " + (start + 1) + " without comments", i - start < 60);
                start = -1;
            }
        }
    }
}
