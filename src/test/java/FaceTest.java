import java.io.IOException;
import java.lang.reflect.Constructor;
import java.lang.reflect.Field;
import java.lang.reflect.Method;
import java.lang.reflect.Modifier;
import java.nio.file.Files;
import java.nio.file.Path;
import java.util.Arrays;
import java.util.Set;
import java.util.TreeSet;
import java.util.regex.Matcher;
import java.util.regex.Pattern;

/** The public face of the document, and those rules of LANGUAGE.md that a test can look at. */
final class FaceTest {
    private static final String[] FACE = {
        "int addGenerator(long) IllegalArgumentException IllegalStateException",
        "boolean areAlike(int, int) IndexOutOfBoundsException",
        "int begin(int, int) IndexOutOfBoundsException IllegalArgumentException",
        "int classOf(int, int) IndexOutOfBoundsException",
        "int classes(int) IndexOutOfBoundsException",
        "int colour(int, int) IndexOutOfBoundsException",
        "int complement(int) IndexOutOfBoundsException",
        "int copies(int, int) IndexOutOfBoundsException",
        "void copy(int, int) IndexOutOfBoundsException",
        "int edges(int) IndexOutOfBoundsException",
        "int fixing(int) IllegalArgumentException",
        "int forgetGenerators()",
        "long form(int) IndexOutOfBoundsException",
        "int image(int, int, int) IndexOutOfBoundsException",
        "boolean isInGroup(long) IllegalArgumentException",
        "int moves(int) IndexOutOfBoundsException",
        "int neighbours(int, int) IndexOutOfBoundsException",
        "int orbit(int, int) IndexOutOfBoundsException",
        "int orbits(int) IndexOutOfBoundsException",
        "int order()",
        "int placeOf(int, int) IndexOutOfBoundsException",
        "int rounds(int) IndexOutOfBoundsException",
        "int setColour(int, int, int) IndexOutOfBoundsException IllegalArgumentException",
        "int size(int) IndexOutOfBoundsException",
        "void swap(int, int, int) IndexOutOfBoundsException",
        "int symmetries(int) IndexOutOfBoundsException",
        "boolean toggle(int, int, int) IndexOutOfBoundsException IllegalArgumentException",
    };

    private static final String[] FORBIDDEN = {
        "package ", "->", "::", "synchronized", "assert ", "finally", "catch", "System.", "Thread", "static {",
        "Exact(", "import java.util.*", "@", "interface ", "Random", "Object", " + \"", "\" + ",
    };

    private static final Pattern LIBRARY = Pattern.compile(
            "\\b(Arrays|Integer|Long|Math|String|StringBuilder|Character|Boolean|List|ArrayList)\\.\\w+");

    /** What the source takes from the library; LANGUAGE.md's rule 4 has to list each one. */
    private static final Set<String> LISTED = Set.of("Arrays.fill", "Integer.bitCount", "Math.min");

    public static void main(String[] args) throws IOException {
        Check check = new Check("FaceTest");
        check.due("NONE", CanonCote.NONE, -1);
        checkMembers(check);
        checkSource(check, Files.readString(Path.of(args[0])));
        check.end();
    }

    private static void checkMembers(Check check) {
        Class<?> face = CanonCote.class;
        check.due("final class", face.getModifiers(), Modifier.PUBLIC | Modifier.FINAL);
        Set<String> methods = new TreeSet<>();
        Set<String> publicNames = new TreeSet<>();
        for (Method method : face.getDeclaredMethods()) {
            if (!Modifier.isPrivate(method.getModifiers())) {
                methods.add(told(method));
                publicNames.add(method.getName());
                check.due(method + " is public alone", method.getModifiers(), Modifier.PUBLIC);
            }
        }
        check.due("face " + methods, methods.equals(new TreeSet<>(Arrays.asList(FACE))), true);
        checkPrivateNames(check, face, publicNames);
        check.due("more than twelve classes", face.getDeclaredClasses().length + 1 > 12, false);
        for (Class<?> inside : face.getDeclaredClasses()) {
            check.due(inside + " is static", Modifier.isStatic(inside.getModifiers()), true);
            check.due(inside + " is not public", Modifier.isPublic(inside.getModifiers()), false);
            checkPrivateNames(check, inside, publicNames);
        }
        for (Field field : face.getDeclaredFields()) {
            boolean isNone = field.getName().equals("NONE");
            check.due(field + " is private", Modifier.isPrivate(field.getModifiers()), !isNone);
        }
        Constructor<?>[] constructors = face.getDeclaredConstructors();
        check.due("constructors", constructors.length, 1);
        check.due("public constructor", constructors[0].getModifiers(), Modifier.PUBLIC);
    }

    private static void checkPrivateNames(Check check, Class<?> holder, Set<String> publicNames) {
        for (Method method : holder.getDeclaredMethods()) {
            if (!Modifier.isPublic(method.getModifiers())) {
                check.due(method + " bears a name of the face", publicNames.contains(method.getName()), false);
            }
            check.due(method + " takes more than seven", method.getParameterCount() > 7, false);
        }
        int fields = 0;
        for (Field field : holder.getDeclaredFields()) {
            boolean isStatic = Modifier.isStatic(field.getModifiers());
            check.due(field + " is static, not final", isStatic && !Modifier.isFinal(field.getModifiers()), false);
            fields += isStatic ? 0 : 1;
        }
        check.due(holder + " has more than twenty fields", fields > 20, false);
    }

    private static String told(Method method) {
        StringBuilder text = new StringBuilder();
        text.append(method.getReturnType().getSimpleName()).append(' ').append(method.getName()).append('(');
        for (int k = 0; k < method.getParameterCount(); k++) {
            text.append(k > 0 ? ", " : "").append(method.getParameterTypes()[k].getSimpleName());
        }
        text.append(')');
        for (Class<?> thrown : method.getExceptionTypes()) {
            text.append(' ').append(thrown.getSimpleName());
        }
        return text.toString();
    }

    private static void checkSource(Check check, String source) {
        for (String text : FORBIDDEN) {
            check.due("the source has \"" + text + "\"", source.contains(text), false);
        }
        for (String line : source.split("\n")) {
            boolean isForeign = line.startsWith("import ") && !line.equals("import java.util.Arrays;");
            check.due("foreign: " + line, isForeign, false);
        }
        Matcher used = LIBRARY.matcher(source);
        while (used.find()) {
            check.due(used.group() + " is listed", LISTED.contains(used.group()), true);
        }
    }
}
