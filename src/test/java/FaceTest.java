import java.io.IOException;
import java.lang.reflect.Constructor;
import java.lang.reflect.Field;
import java.lang.reflect.Method;
import java.lang.reflect.Modifier;
import java.nio.charset.StandardCharsets;
import java.nio.file.Files;
import java.nio.file.Path;
import java.util.Arrays;
import java.util.Set;
import java.util.TreeSet;
import java.util.regex.Matcher;
import java.util.regex.Pattern;

/** The face of the document, and those rules of LANGUAGE.md that can be seen from outside. */
public final class FaceTest {
    private static final Path SOURCE = Path.of("src/main/java/Castlequorum.java");

    public static void main(String[] arguments) throws IOException {
        face();
        classesInside();
        source();
        Check.end();
    }

    /** The methods as the document's code block has them, exceptions in their order too. */
    private static final String[] FACE = {
        "boolean cut(int, int, int, boolean) IndexOutOfBounds",
        "boolean fall(int, int) IndexOutOfBounds",
        "boolean has(int, int, int) IndexOutOfBounds",
        "boolean isCommitted(int, int) IndexOutOfBounds",
        "boolean isSound()",
        "boolean rise(int, int) IndexOutOfBounds",
        "char entryOf(int, int) IndexOutOfBounds",
        "char raid(int, int) IndexOutOfBounds IllegalState",
        "char tower(int, int) IndexOutOfBounds",
        "char truceOf(int, int) IndexOutOfBounds",
        "double meanEntries(int) IndexOutOfBounds",
        "float upShare(int) IndexOutOfBounds",
        "int amountOf(int, int) IndexOutOfBounds",
        "int build(int, int, int) IndexOutOfBounds IllegalArgument UnsupportedOperation",
        "int burn(int, int) IndexOutOfBounds",
        "int counting(int) IndexOutOfBounds",
        "int decide(int, boolean) IndexOutOfBounds UnsupportedOperation",
        "int entries(int) IndexOutOfBounds",
        "int giveUp(int, int, int) IndexOutOfBounds UnsupportedOperation",
        "int gold(int, boolean) IndexOutOfBounds",
        "int lease(int, int, int, int) IndexOutOfBounds IllegalArgument UnsupportedOperation",
        "int leaseOf(int, int, int) IndexOutOfBounds",
        "int near(int, int) IndexOutOfBounds",
        "int openFor(int, int) IndexOutOfBounds NoSuchElement",
        "int order(int, int, int, boolean, int) IndexOutOfBounds IllegalArgument UnsupportedOperation IllegalState",
        "int prepare(int, int, int) IndexOutOfBounds UnsupportedOperation IllegalState",
        "int purse(int, int) IndexOutOfBounds",
        "int read(int, boolean) IndexOutOfBounds UnsupportedOperation",
        "int scout(int, int) IndexOutOfBounds UnsupportedOperation IllegalState",
        "int settle(int) IndexOutOfBounds UnsupportedOperation IllegalState",
        "int spread(int) IndexOutOfBounds",
        "int strike(int) IndexOutOfBounds",
        "int time()",
        "int truce(int, int) IndexOutOfBounds IllegalArgument IllegalState",
        "int voteOf(int, int, int) IndexOutOfBounds NoSuchElement",
        "int voteTill(int, int, int) IndexOutOfBounds NoSuchElement",
        "int wait(int) IllegalArgument",
        "int won(int) IndexOutOfBounds",
        "long checksum()"
    };

    private static void face() {
        Class<?> face = Castlequorum.class;
        Check.due("the class is public and final", face.getModifiers() == (Modifier.PUBLIC | Modifier.FINAL), true);
        Check.due("the constructors", face.getDeclaredConstructors().length, 1);
        for (Constructor<?> constructor : face.getDeclaredConstructors()) {
            Check.due("the constructor is public", constructor.getModifiers(), Modifier.PUBLIC);
            Check.due("it takes nothing", constructor.getParameterCount(), 0);
        }
        Set<String> got = new TreeSet<>();
        for (Method method : face.getDeclaredMethods()) {
            if (!Modifier.isPrivate(method.getModifiers())) {
                Check.due(method.getName() + " is public alone", method.getModifiers(), Modifier.PUBLIC);
                got.add(signature(method));
            }
        }
        Check.due("the face", String.join("\n", got), String.join("\n", new TreeSet<>(Arrays.asList(FACE))));
        for (Field field : face.getDeclaredFields()) {
            Check.due(field.getName() + " is private", Modifier.isPrivate(field.getModifiers()), true);
        }
    }

    private static String signature(Method method) {
        StringBuilder text = new StringBuilder(method.getReturnType().getSimpleName()).append(' ')
            .append(method.getName()).append('(');
        String comma = "";
        for (Class<?> parameter : method.getParameterTypes()) {
            text.append(comma).append(parameter.getSimpleName());
            comma = ", ";
        }
        text.append(')');
        for (Class<?> thrown : method.getExceptionTypes()) {
            text.append(' ').append(thrown.getSimpleName().replace("Exception", ""));
        }
        return text.toString();
    }

    private static void classesInside() {
        Set<String> ofFace = new TreeSet<>();
        for (String row : FACE) {
            ofFace.add(row.substring(row.indexOf(' ') + 1, row.indexOf('(')));
        }
        Check.due("some twelve classes", Castlequorum.class.getDeclaredClasses().length < 12, true);
        limits(Castlequorum.class, Set.of());
        for (Class<?> inside : Castlequorum.class.getDeclaredClasses()) {
            Check.due(inside + " is static", Modifier.isStatic(inside.getModifiers()), true);
            Check.due(inside + " is not public", Modifier.isPublic(inside.getModifiers()), false);
            limits(inside, ofFace);
        }
    }

    private static void limits(Class<?> type, Set<String> taken) {
        int fields = 0;
        for (Field field : type.getDeclaredFields()) {
            boolean isStatic = Modifier.isStatic(field.getModifiers());
            fields += isStatic ? 0 : 1;
            Check.due(field + " if static is final", !isStatic || Modifier.isFinal(field.getModifiers()), true);
        }
        Check.due(type + " has some twenty fields", fields <= 20, true);
        for (Method method : type.getDeclaredMethods()) {
            Check.due(method + " takes seven at most", method.getParameterCount() <= 7, true);
            Check.due(method + " bears no name of the face", taken.contains(method.getName()), false);
        }
    }

    private static void source() throws IOException {
        String text = Files.readString(SOURCE, StandardCharsets.US_ASCII);
        String code = text.replaceAll("(?s)/\\*.*?\\*/", "").replaceAll("//[^\n]*", "").replaceAll("\"[^\"]*\"", "\"\"");
        for (String word : new String[] {"->", "::", "\\btry\\b", "\\bcatch\\b", "\\bfinally\\b", "\\bsynchronized\\b",
            "\\bassert\\b", "\\bpackage\\b", "\\bprotected\\b", "\\bObject\\b", "\\bSystem\\b", "\\bThread\\b",
            "\\bequals\\b", "\\bhashCode\\b", "\\btoString\\b", "Exact\\b", "\\bjava\\.(?!util\\.NoSuchElementException;)",
            "\\bstatic\\s*\\{", "\"\"\\s*\\+|\\+\\s*\"\"", "\\[\\]\\[\\]\\[\\]", "\\bString\\b"}) {
            Matcher found = Pattern.compile(word).matcher(code);
            Check.due("the source holds " + word, found.find() ? found.group() : "nowhere", "nowhere");
        }
        Matcher thrown = Pattern.compile("\\bthrow\\b(?! new \\w+Exception\\(\"\"\\);)").matcher(code);
        Check.due("a throw of another form", thrown.find(), false);
        Matcher dividing = Pattern.compile("[/%](?! 2\\b| \\(float\\) place\\.| \\(double\\) place\\.)").matcher(code);
        Check.due("a division by what may be 0", dividing.find(), false);
        longMethods(code);
    }

    private static void longMethods(String code) {
        int lines = 0;
        for (String line : code.split("\n")) {
            lines = line.isBlank() ? 0 : lines + 1;
            Check.due("a run of lines is some sixty at most", lines <= 60, true);
        }
    }
}
