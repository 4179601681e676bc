import java.io.IOException;
import java.lang.reflect.Constructor;
import java.lang.reflect.Field;
import java.lang.reflect.Method;
import java.lang.reflect.Modifier;
import java.nio.charset.StandardCharsets;
import java.nio.file.Files;
import java.nio.file.Path;
import java.util.Arrays;
import java.util.Set;
import java.util.TreeSet;

/** The public face is the document's, and the source keeps to those rules of LANGUAGE.md that a search can see. */
public final class FaceTest {
    private static final Checks checks = new Checks("FaceTest");

    private static final String[] METHODS = {
        "int append(int,int,int,int,int)",
        "int load(int) IllegalArgumentException",
        "int errorOffset()",
        "int state(int) IllegalArgumentException",
        "int player(int,int) IndexOutOfBoundsException IllegalArgumentException",
        "int tile(int,int) IndexOutOfBoundsException NoSuchElementException",
        "int train(int,int) IndexOutOfBoundsException IllegalArgumentException",
        "int laid(int,int) IndexOutOfBoundsException NoSuchElementException",
        "int why(int,int) IndexOutOfBoundsException IllegalArgumentException",
        "int best()",
        "int rank(int,int) IndexOutOfBoundsException IllegalArgumentException NoSuchElementException",
        "int longest(int) IndexOutOfBoundsException",
        "int longestTile(int,int) IndexOutOfBoundsException NoSuchElementException",
        "int heaviest(int) IndexOutOfBoundsException",
        "int winner()",
        "int stepsToEnd()",
        "double meanPips()",
        "int play(int,int) IndexOutOfBoundsException IllegalArgumentException IllegalStateException",
        "int draw() IllegalStateException",
        "int pass() IllegalStateException",
        "int auto(int) IllegalArgumentException",
        "int deal(int,int) IllegalArgumentException IllegalStateException",
        "int undo()",
        "long checksum()",
    };

    private static final String[] FORBIDDEN = {
        "catch", "finally", "synchronized", "assert", "->", "::", "Exact", "equals(", "hashCode", "toString",
        "currentTimeMillis", "nanoTime", "Random", "Thread", "java.io", "java.nio", "System.out", "extends Exception",
    };

    public static void main(String[] args) throws IOException {
        constants();
        methods();
        noOtherMembers();
        sizes();
        source();
        checks.end();
    }

    private static void constants() {
        checks.same("SYNTAX_ERROR", HubTrains.SYNTAX_ERROR, -2);
        checks.same("OUT_OF_RANGE", HubTrains.OUT_OF_RANGE, -3);
        checks.same("REPEATED", HubTrains.REPEATED, -4);
        checks.same("TOO_MANY", HubTrains.TOO_MANY, -5);
        checks.same("TOO_DEEP", HubTrains.TOO_DEEP, -6);
    }

    private static void methods() {
        Set<String> due = new TreeSet<>(Arrays.asList(METHODS));
        Set<String> there = new TreeSet<>();
        for (Method method : HubTrains.class.getDeclaredMethods()) {
            if (Modifier.isPublic(method.getModifiers())) {
                there.add(signature(method));
            }
        }
        checks.same("the public methods", there, due);
    }

    private static String signature(Method method) {
        StringBuilder text = new StringBuilder(method.getReturnType() + " " + method.getName() + "(");
        for (Class<?> type : method.getParameterTypes()) {
            text.append(text.charAt(text.length() - 1) == '(' ? "" : ",").append(type);
        }
        text.append(")");
        for (Class<?> type : method.getExceptionTypes()) {
            text.append(" ").append(type.getSimpleName());
        }
        return text.toString();
    }

    private static void noOtherMembers() {
        checks.same("final", Modifier.isFinal(HubTrains.class.getModifiers()), true);
        Set<String> publicNames = new TreeSet<>();
        for (String method : METHODS) {
            publicNames.add(method.substring(method.indexOf(' ') + 1, method.indexOf('(')));
        }
        for (Method method : HubTrains.class.getDeclaredMethods()) {
            int modifiers = method.getModifiers();
            boolean isPrivate = Modifier.isPrivate(modifiers) && !publicNames.contains(method.getName());
            checks.same("the face of " + method, Modifier.isPublic(modifiers) || isPrivate, true);
        }
        int publicFields = 0;
        for (Field field : HubTrains.class.getDeclaredFields()) {
            publicFields += Modifier.isPublic(field.getModifiers()) ? 1 : 0;
            boolean hidden = Modifier.isPublic(field.getModifiers()) || Modifier.isPrivate(field.getModifiers());
            checks.same("the face of " + field, hidden, true);
        }
        checks.same("public fields", publicFields, 5);
        Constructor<?>[] constructors = HubTrains.class.getDeclaredConstructors();
        checks.same("constructors", constructors.length, 1);
        for (Class<?> inner : HubTrains.class.getDeclaredClasses()) {
            int modifiers = inner.getModifiers();
            checks.same("static " + inner, Modifier.isStatic(modifiers) && !Modifier.isPublic(modifiers), true);
            for (Method method : inner.getDeclaredMethods()) {
                checks.same("the name of " + method, publicNames.contains(method.getName()), false);
            }
        }
        checks.same("classes inside at most 12", HubTrains.class.getDeclaredClasses().length <= 12, true);
    }

    private static void sizes() {
        sizesOf(HubTrains.class);
        for (Class<?> inner : HubTrains.class.getDeclaredClasses()) {
            sizesOf(inner);
        }
    }

    private static void sizesOf(Class<?> type) {
        int fields = 0;
        for (Field field : type.getDeclaredFields()) {
            int modifiers = field.getModifiers();
            fields += Modifier.isStatic(modifiers) ? 0 : 1;
            boolean constant = !Modifier.isStatic(modifiers) || Modifier.isFinal(modifiers);
            checks.same("static fields are final: " + field, constant, true);
        }
        checks.same("at most 20 fields in " + type, fields <= 20, true);
        for (Method method : type.getDeclaredMethods()) {
            checks.same("at most 7 parameters in " + method, method.getParameterCount() <= 7, true);
        }
    }

    /** Methods of the class stand 4 deep, those of the classes inside 8 deep, each up to its closing brace. */
    private static void lengthsOfMethods(String text) {
        int start = 0;
        String end = "";
        String[] lines = text.split("\n");
        for (int k = 0; k < lines.length; k++) {
            boolean opens = lines[k].matches(" {4}( {4})?\\S.*\\{") && !lines[k].contains(" class ");
            if (end.isEmpty() && opens) {
                start = k;
                end = lines[k].substring(0, lines[k].indexOf(lines[k].strip())) + "}";
            } else if (lines[k].equals(end)) {
                checks.same("at most 60 lines: " + lines[start].strip(), k - start < 60, true);
                end = "";
            }
        }
    }

    private static void source() throws IOException {
        String text = Files.readString(Path.of("src/main/java/HubTrains.java"), StandardCharsets.US_ASCII);
        for (String word : FORBIDDEN) {
            checks.same("the source has " + word, text.contains(word), false);
        }
        lengthsOfMethods(text);
        for (String line : text.split("\n")) {
            if (line.startsWith("import ")) {
                boolean allowed = line.equals("import java.util.Arrays;")
                        || line.equals("import java.util.NoSuchElementException;");
                checks.same(line, allowed, true);
            }
        }
    }
}
