import java.lang.reflect.InvocationTargetException;
import java.lang.reflect.Method;
import java.lang.reflect.Modifier;
import java.util.ArrayList;
import java.util.Arrays;
import java.util.Comparator;
import java.util.List;
import java.util.Random;

/** Asks the class and the model the same, in runs of at most 512 calls, and compares each answer. */
public final class RandomRunsTest {
    private static final int CALLS = 512;
    private static final int[] EXTREMES = {Integer.MIN_VALUE, Integer.MAX_VALUE, -1, 100, 41, 20, 8, 1 << 20, -2};

    private final Random random;
    private final PromiseDepot depot = new PromiseDepot();
    private final ModelDepot model = new ModelDepot();
    private final List<String> calls = new ArrayList<>();
    private boolean wrong = false;

    private RandomRunsTest(long seed) {
        random = new Random(seed);
    }

    public static void main(String[] args) throws ReflectiveOperationException {
        int runs = args.length > 0 ? Integer.parseInt(args[0]) : 600;
        List<Method> methods = faceMethods();
        for (int seed = 0; seed < runs; seed++) {
            RandomRunsTest run = new RandomRunsTest(seed);
            run.go(methods, seed % 4);
            Check.due("run with seed " + seed, run.wrong, false);
        }
        Check.finish("RandomRunsTest");
    }

    private static List<Method> faceMethods() {
        List<Method> methods = new ArrayList<>();
        for (Method m : PromiseDepot.class.getDeclaredMethods()) {
            if (Modifier.isPublic(m.getModifiers())) {
                methods.add(m);
            }
        }
        methods.sort(Comparator.comparing(Method::getName));
        return methods;
    }

    private void go(List<Method> methods, int manner) throws ReflectiveOperationException {
        for (int i = 0; i < 3 + random.nextInt(6); i++) {
            call("addShelf", zone(manner), 1 + random.nextInt(40));
        }
        while (calls.size() < CALLS && !wrong) {
            int choice = random.nextInt(100);
            if (choice < 45) {
                change(manner);
            } else if (choice < 48 && calls.size() < CALLS - 62) {
                text(manner);
            } else {
                Method m = methods.get(random.nextInt(methods.size()));
                boolean rare = m.getName().equals("restoreSnapshot") && random.nextInt(4) > 0;
                if (!rare) {
                    call(m.getName(), anyArguments(m));
                }
            }
        }
    }

    private int zone(int manner) {
        return manner == 0 ? 0 : random.nextInt(manner == 1 ? 2 : 3);
    }

    private int kind(int manner) {
        return random.nextInt(manner == 3 ? 6 : 2);
    }

    private int volume() {
        return 1 + random.nextInt(random.nextBoolean() ? 6 : 20);
    }

    private int lot() {
        return random.nextInt(model.lotCount() + (random.nextInt(10) == 0 ? 2 : 1));
    }

    private int shelf() {
        return random.nextInt(model.shelfCount() + (random.nextInt(10) == 0 ? 2 : 1));
    }

    private int days() {
        return random.nextInt(random.nextInt(5) == 0 ? 99 : 8);
    }

    private void change(int manner) throws ReflectiveOperationException {
        switch (random.nextInt(15)) {
            case 0, 1, 2 -> call("receive", kind(manner), volume(), zone(manner), days());
            case 3, 4 -> call("split", lot(), volume());
            case 5, 6 -> call("mix", lot(), lot());
            case 7 -> call("move", lot(), shelf());
            case 8, 9 -> call("ship", kind(manner), volume());
            case 10 -> call("recall", lot());
            case 11 -> call("compost");
            case 12 -> call("count", shelf());
            case 13 -> call(random.nextInt(3) == 0 ? "pass" : "undo", random.nextInt(3));
            default -> call("undo");
        }
    }

    private void text(int manner) throws ReflectiveOperationException {
        StringBuilder text = new StringBuilder();
        int commands = 1 + random.nextInt(4);
        for (int i = 0; i < commands; i++) {
            text.append(i == 0 ? "" : ";").append(command(manner));
        }
        if (random.nextInt(3) == 0) {
            int at = random.nextInt(text.length());
            switch (random.nextInt(4)) {
                case 0 -> text.setCharAt(at, "0;abcsmr &>+\u0662\uffff".charAt(random.nextInt(14)));
                case 1 -> text.deleteCharAt(at);
                case 2 -> text.insert(at, "0; s1".charAt(random.nextInt(5)));
                default -> text.setLength(at);
            }
        }
        for (int i = 0; i < text.length() && i < 60; i++) {
            call("feed", text.charAt(i));
        }
        call("execute");
        for (String query : new String[] {"faultPosition", "denial", "denialDetail", "denialCause"}) {
            call(query);
        }
    }

    private String command(int manner) {
        return switch (random.nextInt(10)) {
            case 0 -> "shelf " + zone(manner) + " " + random.nextInt(42);
            case 1, 2 -> "receive " + kind(manner) + " " + volume() + " " + zone(manner) + "+" + random.nextInt(10);
            case 3 -> "split " + lot() + " " + volume();
            case 4 -> "mix " + lot() + "&" + lot();
            case 5 -> "move " + lot() + ">" + Math.min(9, shelf());
            case 6 -> "ship " + kind(manner) + " " + volume();
            case 7 -> "recall " + lot();
            case 8 -> random.nextBoolean() ? "compost" : "count " + Math.min(9, shelf());
            default -> "wait " + random.nextInt(3);
        };
    }

    private Object[] anyArguments(Method m) {
        Object[] arguments = new Object[m.getParameterCount()];
        for (int i = 0; i < arguments.length; i++) {
            if (m.getParameterTypes()[i] == char.class) {
                arguments[i] = (char) random.nextInt(65536);
            } else if (random.nextInt(12) == 0) {
                arguments[i] = EXTREMES[random.nextInt(EXTREMES.length)];
            } else {
                arguments[i] = random.nextInt(random.nextBoolean() ? 3 : 21);
            }
        }
        return arguments;
    }

    private void call(String name, Object... arguments) throws ReflectiveOperationException {
        if (calls.size() >= CALLS || wrong) {
            return;
        }
        Object[] own = name.equals("undo") ? new Object[0] : arguments;
        String asked = name + Arrays.toString(own);
        String got = answer(depot, name, own);
        String due = answer(model, name, own);
        calls.add(asked + " " + got);
        if (!got.equals(due)) {
            wrong = true;
            System.out.println(String.join("\n", calls) + "\nanswered " + got + ", due is " + due);
        }
    }

    private static String answer(Object target, String name, Object[] arguments) throws ReflectiveOperationException {
        for (Method m : target.getClass().getDeclaredMethods()) {
            if (m.getName().equals(name) && Modifier.isPublic(m.getModifiers())) {
                try {
                    return String.valueOf(m.invoke(target, arguments));
                } catch (InvocationTargetException e) {
                    return "throws " + e.getCause().getClass().getSimpleName();
                }
            }
        }
        throw new NoSuchMethodException(name);
    }
}
