import java.io.IOException;
import java.lang.reflect.Array;
import java.lang.reflect.Constructor;
import java.lang.reflect.Field;
import java.lang.reflect.Method;
import java.lang.reflect.Modifier;
import java.nio.file.Files;
import java.nio.file.Path;
import java.util.ArrayDeque;
import java.util.ArrayList;
import java.util.Arrays;
import java.util.Deque;
import java.util.IdentityHashMap;
import java.util.List;
import java.util.Map;
import java.util.Set;
import java.util.TreeSet;
import java.util.regex.Matcher;
import java.util.regex.Pattern;
import java.util.stream.Collectors;

/** The public face of the class, and the rules of the language that can be seen in its text. */
public final class FaceTest {
    private static final String[] FACE = {
        "int addShelf(int,int) IllegalArgumentException UnsupportedOperationException",
        "int count(int) IndexOutOfBoundsException",
        "int shelfCount()",
        "int zoneOf(int) IndexOutOfBoundsException",
        "int roomOf(int) IndexOutOfBoundsException",
        "int lotsOn(int) IndexOutOfBoundsException",
        "int shelfFor(int,int) IllegalArgumentException NoSuchElementException",
        "int countedDay(int) IndexOutOfBoundsException NoSuchElementException",
        "int shelfToCount(int) NoSuchElementException",
        "int fewestShelves(int) IllegalArgumentException",
        "int fewestShelvesBySearch(int) IllegalArgumentException",
        "int receive(int,int,int,int) IllegalArgumentException UnsupportedOperationException",
        "int split(int,int) NoSuchElementException IllegalArgumentException UnsupportedOperationException",
        "int mix(int,int) NoSuchElementException IllegalArgumentException UnsupportedOperationException",
        "int move(int,int) NoSuchElementException IndexOutOfBoundsException UnsupportedOperationException",
        "int ship(int,int) IllegalArgumentException UnsupportedOperationException",
        "int recall(int) NoSuchElementException",
        "int lotCount()",
        "boolean isOnShelf(int) NoSuchElementException",
        "int shelfOf(int) NoSuchElementException",
        "int volumeOf(int) NoSuchElementException",
        "int expiryOf(int) NoSuchElementException",
        "boolean isExpired(int) NoSuchElementException",
        "int parentCount(int) NoSuchElementException",
        "int descendants(int) NoSuchElementException",
        "int descendantsByTable(int) NoSuchElementException",
        "boolean descendsFrom(int,int) NoSuchElementException",
        "int recallSize(int) NoSuchElementException",
        "int available(int) IllegalArgumentException",
        "int firstToShip(int) IllegalArgumentException NoSuchElementException",
        "int lotByExpiry(int) NoSuchElementException",
        "int compost() UnsupportedOperationException",
        "int heapSize()",
        "int nextCompost() NoSuchElementException",
        "int nextCompostByScan() NoSuchElementException",
        "int pass(int) IllegalArgumentException",
        "int day()",
        "int received()",
        "int stored()",
        "int heaped()",
        "int shipped()",
        "int composted()",
        "double meanVolume() ArithmeticException",
        "float expiredShare() ArithmeticException",
        "int feed(char) IllegalStateException",
        "int execute() IllegalArgumentException UnsupportedOperationException",
        "int faultPosition() NoSuchElementException",
        "int writeLot(int) NoSuchElementException",
        "char lineCharacter(int) IndexOutOfBoundsException",
        "int denial() NoSuchElementException",
        "int denialDetail() NoSuchElementException",
        "int denialCause() NoSuchElementException",
        "int undo() IllegalStateException",
        "int undoCount()",
        "int saveSnapshot()",
        "int restoreSnapshot() IllegalStateException",
    };
    private static final String[] RULED_OUT = {"\\bcatch\\s*\\((?!(?:IllegalState|IllegalArgument|IndexOutOfBounds|Arithmetic|UnsupportedOperation"
        + "|NoSuchElement|Runtime)Exception \\w+\\))", "\\bfinally\\b", "\\btry\\s*\\(", "(?m)^(?!\\s*(?:case|default)\\b).*->", "::",
        "\\bsynchronized\\b", "\\bassert\\b", "\\bSystem\\.(?!arraycopy\\b)", "Exact\\(", "\\.hashCode\\(", "\\bpackage \\w",
        "\\bimport (?!java\\.util\\.(?:NoSuchElementException|ArrayList|List|Arrays|Iterator);)", "\"\\s*\\+|\\+\\s*\""};

    public static void main(String[] args) throws IOException {
        theClass();
        theMethods();
        theClassesInside();
        theText();
        theLengthsOfMethods();
        theRoom();
        Check.finish("FaceTest");
    }

    private static void theClass() {
        Class<?> face = PromiseDepot.class;
        Check.due("public and final", face.getModifiers(), Modifier.PUBLIC | Modifier.FINAL);
        Check.due("without a package", face.getPackageName(), "");
        Constructor<?>[] constructors = face.getDeclaredConstructors();
        Check.due("one constructor", constructors.length, 1);
        Check.due("public, without parameters", constructors[0].toString(), "public PromiseDepot()");
        for (Field field : face.getDeclaredFields()) {
            Check.due(field.getName() + " is private", Modifier.isPrivate(field.getModifiers()), true);
            boolean state = Modifier.isStatic(field.getModifiers()) && !Modifier.isFinal(field.getModifiers());
            Check.due(field.getName() + " is no static state", state, false);
        }
        for (Class<?> inside : face.getDeclaredClasses()) {
            boolean hidden = Modifier.isStatic(inside.getModifiers()) && !Modifier.isPublic(inside.getModifiers());
            Check.due(inside.getName() + " is static and not public", hidden, true);
        }
    }

    private static void theMethods() {
        Set<String> found = new TreeSet<>();
        Set<String> names = new TreeSet<>();
        for (Method m : PromiseDepot.class.getDeclaredMethods()) {
            if (Modifier.isPublic(m.getModifiers())) {
                found.add(describe(m));
                names.add(m.getName());
            }
        }
        Check.due("the face", found, new TreeSet<>(Arrays.asList(FACE)));
        for (Method m : PromiseDepot.class.getDeclaredMethods()) {
            if (!Modifier.isPublic(m.getModifiers())) {
                Check.due(m.getName() + " is private", Modifier.isPrivate(m.getModifiers()), true);
                Check.due(m.getName() + " bears a name of the face", names.contains(m.getName()), false);
            }
        }
    }

    private static void theClassesInside() {
        List<Class<?>> classes = new ArrayList<>(List.of(PromiseDepot.class.getDeclaredClasses()));
        classes.add(PromiseDepot.class);
        Check.due("at most twelve classes", classes.size() <= 12, true);
        for (Class<?> some : classes) {
            int fields = 0;
            for (Field field : some.getDeclaredFields()) {
                boolean fixed = Modifier.isStatic(field.getModifiers());
                fields += fixed ? 0 : 1;
                boolean constant = field.getType().isPrimitive() && Modifier.isFinal(field.getModifiers());
                Check.due(some.getName() + "." + field.getName() + " is no static state", !fixed || constant, true);
            }
            Check.due(some.getName() + " has at most twenty fields", fields <= 20, true);
            for (Method m : some.getDeclaredMethods()) {
                Check.due(m + " takes at most seven parameters", m.getParameterCount() <= 7, true);
                boolean ownName = !Set.of("equals", "hashCode", "toString", "finalize", "clone").contains(m.getName());
                Check.due(m + " is no method of every object", ownName, true);
            }
        }
    }

    private static String describe(Method m) {
        String parameters = Arrays.stream(m.getParameterTypes()).map(Class::getSimpleName).collect(Collectors.joining(","));
        String exceptions = Arrays.stream(m.getExceptionTypes()).map(c -> " " + c.getSimpleName()).collect(Collectors.joining());
        return m.getReturnType().getSimpleName() + " " + m.getName() + "(" + parameters + ")" + exceptions;
    }

    private static void theLengthsOfMethods() throws IOException {
        List<String> lines = Files.readAllLines(Path.of("src", "main", "java", "PromiseDepot.java"));
        Pattern head = Pattern.compile("( {4}| {8})(?!case|default)[A-Za-z].*\\) (?:throws .*)?\\{");
        int methods = 0;
        for (int from = 0; from < lines.size(); from++) {
            Matcher m = head.matcher(lines.get(from));
            if (m.matches()) {
                int to = from;
                while (!lines.get(to).equals(m.group(1) + "}")) {
                    to++;
                }
                methods++;
                Check.due("lines of " + lines.get(from).strip() + " are sixty at most", to - from < 60, true);
            }
        }
        Check.due("methods are found", methods > FACE.length, true);
    }

    /** What an object holds stays the same through all its calls, but for the characters of its line. */
    private static void theRoom() {
        PromiseDepot depot = new PromiseDepot();
        int[] before = held(depot);
        Check.due("at most 600 objects and arrays, but " + before[0], before[0] <= 600, true);
        Check.due("at most 6000 fields and elements, but " + before[1], before[1] <= 6000, true);
        Stories.FULL.tell(depot);
        for (int i = 0; i < 30; i++) {
            depot.saveSnapshot();
            depot.writeLot(i % 20);
            Check.run(depot, "wait 1");
            Check.thrownBy(() -> Check.run(depot, "wait"));
        }
        Check.due("held after many calls", Arrays.toString(held(depot)), Arrays.toString(before));
    }

    /** The number of objects and arrays that an object holds, itself too, and of their fields and elements. */
    private static int[] held(Object first) {
        int[] counts = new int[2];
        Map<Object, Boolean> seen = new IdentityHashMap<>();
        Deque<Object> left = new ArrayDeque<>(List.of(first));
        while (!left.isEmpty()) {
            Object some = left.remove();
            if (seen.put(some, true) == null) {
                counts[0]++;
                counts[1] += some.getClass().isArray() ? Array.getLength(some) : 0;
                for (Object part : partsOf(some, counts)) {
                    left.add(part);
                }
            }
        }
        return counts;
    }

    private static List<Object> partsOf(Object some, int[] counts) {
        List<Object> parts = new ArrayList<>();
        if (some instanceof Object[] array) {
            parts.addAll(Arrays.asList(array));
        }
        if (!some.getClass().getName().startsWith("PromiseDepot")) {
            return parts;
        }
        for (Field field : some.getClass().getDeclaredFields()) {
            if (!Modifier.isStatic(field.getModifiers())) {
                counts[1]++;
                parts.addAll(valueOf(field, some));
            }
        }
        return parts;
    }

    private static List<Object> valueOf(Field field, Object some) {
        try {
            field.setAccessible(true);
            Object value = field.get(some);
            return field.getType().isPrimitive() || value == null ? List.of() : List.of(value);
        } catch (IllegalAccessException e) {
            Check.due("access to " + field, false, true);
            return List.of();
        }
    }

    private static void theText() throws IOException {
        String text = Files.readString(Path.of("src", "main", "java", "PromiseDepot.java"));
        String code = text.replaceAll("(?s)/\\*.*?\\*/", " ");
        for (String rule : RULED_OUT) {
            Matcher m = Pattern.compile(rule).matcher(code);
            Check.due("something like " + rule, m.find() ? m.group() : "", "");
        }
        Check.due("signs 1 to 127 alone", text.chars().allMatch(c -> c > 0 && c < 128), true);
    }
}
