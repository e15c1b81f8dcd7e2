import java.io.IOException;
import java.lang.reflect.Constructor;
import java.lang.reflect.Field;
import java.lang.reflect.Method;
import java.lang.reflect.Modifier;
import java.nio.file.Files;
import java.nio.file.Path;
import java.util.Arrays;
import java.util.Set;
import java.util.TreeSet;
import java.util.regex.Matcher;
import java.util.regex.Pattern;
import java.util.stream.Collectors;

/** The public face of the class, and the rules of the language that can be seen in its text. */
public final class FaceTest {
    private static final String[] FACE = {
        "int addShelf(int,int) IllegalArgumentException UnsupportedOperationException",
        "int count(int) IndexOutOfBoundsException",
        "int shelfCount()",
        "int zoneOf(int) IndexOutOfBoundsException",
        "int roomOf(int) IndexOutOfBoundsException",
        "int lotsOn(int) IndexOutOfBoundsException",
        "int shelfFor(int,int) IllegalArgumentException NoSuchElementException",
        "int countedDay(int) IndexOutOfBoundsException NoSuchElementException",
        "int shelfToCount(int) NoSuchElementException",
        "int fewestShelves(int) IllegalArgumentException",
        "int fewestShelvesBySearch(int) IllegalArgumentException",
        "int receive(int,int,int,int) IllegalArgumentException UnsupportedOperationException",
        "int split(int,int) NoSuchElementException IllegalArgumentException UnsupportedOperationException",
        "int mix(int,int) NoSuchElementException IllegalArgumentException UnsupportedOperationException",
        "int move(int,int) NoSuchElementException IndexOutOfBoundsException UnsupportedOperationException",
        "int ship(int,int) IllegalArgumentException UnsupportedOperationException",
        "int recall(int) NoSuchElementException",
        "int lotCount()",
        "boolean isOnShelf(int) NoSuchElementException",
        "int shelfOf(int) NoSuchElementException",
        "int volumeOf(int) NoSuchElementException",
        "int expiryOf(int) NoSuchElementException",
        "boolean isExpired(int) NoSuchElementException",
        "int parentCount(int) NoSuchElementException",
        "int descendants(int) NoSuchElementException",
        "int descendantsByTable(int) NoSuchElementException",
        "boolean descendsFrom(int,int) NoSuchElementException",
        "int recallSize(int) NoSuchElementException",
        "int available(int) IllegalArgumentException",
        "int firstToShip(int) IllegalArgumentException NoSuchElementException",
        "int lotByExpiry(int) NoSuchElementException",
        "int compost() UnsupportedOperationException",
        "int heapSize()",
        "int nextCompost() NoSuchElementException",
        "int nextCompostByScan() NoSuchElementException",
        "int pass(int) IllegalArgumentException",
        "int day()",
        "int received()",
        "int stored()",
        "int heaped()",
        "int shipped()",
        "int composted()",
        "double meanVolume() ArithmeticException",
        "float expiredShare() ArithmeticException",
        "int feed(char) IllegalStateException",
        "int execute() IllegalArgumentException UnsupportedOperationException",
        "int faultPosition() NoSuchElementException",
        "int writeLot(int) NoSuchElementException",
        "char lineCharacter(int) IndexOutOfBoundsException",
        "int denial() NoSuchElementException",
        "int denialDetail() NoSuchElementException",
        "int denialCause() NoSuchElementException",
        "int undo() IllegalStateException",
        "int undoCount()",
        "int saveSnapshot()",
        "int restoreSnapshot() IllegalStateException",
    };
    private static final String[] RULED_OUT = {"\\bcatch\\s*\\((?!(?:IllegalState|IllegalArgument|IndexOutOfBounds|Arithmetic|UnsupportedOperation"
        + "|NoSuchElement|Runtime)Exception \\w+\\))", "\\bfinally\\b", "\\btry\\s*\\(", "(?m)^(?!\\s*(?:case|default)\\b).*->", "::",
        "\\bsynchronized\\b", "\\bassert\\b", "\\bSystem\\.(?!arraycopy\\b)", "Exact\\(", "\\.hashCode\\(", "\\bpackage \\w",
        "\\bimport (?!java\\.util\\.(?:NoSuchElementException|ArrayList|List|Arrays|Iterator);)", "\"\\s*\\+|\\+\\s*\""};

    public static void main(String[] args) throws IOException {
        theClass();
        theMethods();
        theText();
        Check.finish("FaceTest");
    }

    private static void theClass() {
        Class<?> face = PromiseDepot.class;
        Check.due("public and final", face.getModifiers(), Modifier.PUBLIC | Modifier.FINAL);
        Check.due("without a package", face.getPackageName(), "");
        Constructor<?>[] constructors = face.getDeclaredConstructors();
        Check.due("one constructor", constructors.length, 1);
        Check.due("public, without parameters", constructors[0].toString(), "public PromiseDepot()");
        for (Field field : face.getDeclaredFields()) {
            Check.due(field.getName() + " is private", Modifier.isPrivate(field.getModifiers()), true);
            boolean state = Modifier.isStatic(field.getModifiers()) && !Modifier.isFinal(field.getModifiers());
            Check.due(field.getName() + " is no static state", state, false);
        }
        for (Class<?> inside : face.getDeclaredClasses()) {
            boolean hidden = Modifier.isStatic(inside.getModifiers()) && !Modifier.isPublic(inside.getModifiers());
            Check.due(inside.getName() + " is static and not public", hidden, true);
        }
    }

    private static void theMethods() {
        Set<String> found = new TreeSet<>();
        Set<String> names = new TreeSet<>();
        for (Method m : PromiseDepot.class.getDeclaredMethods()) {
            if (Modifier.isPublic(m.getModifiers())) {
                found.add(describe(m));
                names.add(m.getName());
            }
        }
        Check.due("the face", found, new TreeSet<>(Arrays.asList(FACE)));
        for (Method m : PromiseDepot.class.getDeclaredMethods()) {
            if (!Modifier.isPublic(m.getModifiers())) {
                Check.due(m.getName() + " is private", Modifier.isPrivate(m.getModifiers()), true);
                Check.due(m.getName() + " bears a name of the face", names.contains(m.getName()), false);
            }
        }
    }

    private static String describe(Method m) {
        String parameters = Arrays.stream(m.getParameterTypes()).map(Class::getSimpleName).collect(Collectors.joining(","));
        String exceptions = Arrays.stream(m.getExceptionTypes()).map(c -> " " + c.getSimpleName()).collect(Collectors.joining());
        return m.getReturnType().getSimpleName() + " " + m.getName() + "(" + parameters + ")" + exceptions;
    }

    private static void theText() throws IOException {
        String text = Files.readString(Path.of("src", "main", "java", "PromiseDepot.java"));
        String code = text.replaceAll("(?s)/\\*.*?\\*/", " ");
        for (String rule : RULED_OUT) {
            Matcher m = Pattern.compile(rule).matcher(code);
            Check.due("something like " + rule, m.find() ? m.group() : "", "");
        }
        Check.due("signs 1 to 127 alone", text.chars().allMatch(c -> c > 0 && c < 128), true);
    }
}
