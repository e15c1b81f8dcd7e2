import java.lang.reflect.InvocationTargetException;
import java.lang.reflect.Method;
import java.lang.reflect.Modifier;
import java.util.ArrayList;
import java.util.HashMap;
import java.util.List;
import java.util.Map;
import java.util.Random;

/**
 * Runs of random changes, undone, saved and restored; after each call all that can be asked is asked of the class
 * and of the model. The run so far is told to new objects again and again, so that each is used for 512 calls at most.
 */
public final class EveryLookTest {
    private static final int CALLS = 512;
    private static final int STEPS = 60;
    private static final Map<String, Method> OWN = methodsOf(PromiseDepot.class);
    private static final Map<String, Method> MODEL = methodsOf(ModelDepot.class);
    private static final List<Object[]> LOOKS = looks();

    private final Random random;
    private final List<Object[]> told = new ArrayList<>();
    private final ModelDepot model = new ModelDepot();
    private String wrong = "none";

    private EveryLookTest(long seed) {
        random = new Random(seed);
    }

    public static void main(String[] args) {
        int runs = args.length > 0 ? Integer.parseInt(args[0]) : 16;
        for (int seed = 0; seed < runs; seed++) {
            EveryLookTest run = new EveryLookTest(seed);
            run.go();
            Check.due("run with seed " + seed + ", what is wrong", run.wrong, "none");
        }
        Check.finish("EveryLookTest");
    }

    private static Map<String, Method> methodsOf(Class<?> some) {
        Map<String, Method> methods = new HashMap<>();
        for (Method method : some.getDeclaredMethods()) {
            if (Modifier.isPublic(method.getModifiers())) {
                methods.put(method.getName(), method);
            }
        }
        return methods;
    }

    /** All that can be asked, each as the name of a method and its parameters. */
    private static List<Object[]> looks() {
        List<Object[]> looks = new ArrayList<>();
        for (String name : new String[] {"shelfCount", "lotCount", "heapSize", "nextCompost", "nextCompostByScan", "day", "received", "stored", "heaped",
            "shipped", "composted", "meanVolume", "expiredShare", "undoCount", "denial", "denialDetail", "denialCause", "faultPosition"}) {
            looks.add(new Object[] {name});
        }
        addLooks(looks, 9, "zoneOf", "roomOf", "lotsOn", "countedDay", "shelfToCount", "lotByExpiry");
        addLooks(looks, 4, "fewestShelves", "fewestShelvesBySearch");
        addLooks(looks, 7, "available", "firstToShip");
        addLooks(looks, 21, "isOnShelf", "shelfOf", "volumeOf", "expiryOf", "isExpired", "parentCount", "descendants", "descendantsByTable", "recallSize");
        for (int zone = 0; zone < 3; zone++) {
            for (int volume = 1; volume <= 40; volume++) {
                looks.add(new Object[] {"shelfFor", zone, volume});
            }
        }
        for (int lot = 0; lot <= 20; lot++) {
            for (int ancestor = 0; ancestor <= 20; ancestor++) {
                looks.add(new Object[] {"descendsFrom", lot, ancestor});
            }
        }
        for (int lot = 0; lot <= 20; lot++) {
            looks.add(new Object[] {"writeLot", lot});
            addLooks(looks, 24, "lineCharacter");
        }
        return looks;
    }

    private static void addLooks(List<Object[]> looks, int values, String... names) {
        for (String name : names) {
            for (int value = 0; value < values; value++) {
                looks.add(new Object[] {name, value});
            }
        }
    }

    private void go() {
        for (int i = 0; i < 2 + random.nextInt(3); i++) {
            next("addShelf", zone(), 12 + random.nextInt(29));
        }
        for (int step = 0; step < STEPS && told.size() < CALLS / 2 && wrong.equals("none"); step++) {
            switch (random.nextInt(16)) {
                case 0 -> text();
                case 1 -> next("undo");
                case 2 -> next(random.nextInt(3) > 0 ? "saveSnapshot" : "restoreSnapshot");
                case 3, 4, 5, 6 -> next("receive", random.nextInt(2), 1 + random.nextInt(9), zone(), random.nextInt(6));
                case 7 -> next("recall", random.nextInt(model.lotCount() + 1));
                case 8 -> next("compost");
                case 9 -> next("count", shelf());
                case 10 -> next(random.nextInt(3) > 0 ? "pass" : "addShelf", 1 + random.nextInt(2), 10);
                default -> change();
            }
            lookAtEverything();
        }
    }

    private int zone() {
        return random.nextInt(random.nextInt(3) == 0 ? 3 : 1);
    }

    /** One of the lots on shelves, of which there is at least one; seldom another. */
    private int lot() {
        int rank = random.nextInt(8);
        if (random.nextInt(12) == 0) {
            return rank;
        }
        int on = 0;
        while (!answer(model, MODEL, new Object[] {"lotByExpiry", on}).startsWith("throws")) {
            on++;
        }
        return on == 0 ? 0 : model.lotByExpiry(rank % on);
    }

    /** A lot like this one, if a few tries find one. */
    private int like(int lot) {
        int other = lot();
        for (int i = 0; i < 12 && !alike(lot, other); i++) {
            other = lot();
        }
        return other;
    }

    private boolean alike(int lot, int other) {
        return lot != other && kindAndZone(lot).equals(kindAndZone(other));
    }

    private String kindAndZone(int lot) {
        ModelDepot other = new ModelDepot();
        for (Object[] call : told) {
            answer(other, MODEL, call);
        }
        StringBuilder line = new StringBuilder();
        if (lot < other.lotCount()) {
            other.writeLot(lot);
            for (int i = String.valueOf(lot).length(); i < String.valueOf(lot).length() + 4; i++) {
                line.append(other.lineCharacter(i));
            }
        }
        return line.toString();
    }

    private int shelf() {
        return random.nextInt(Math.max(1, model.shelfCount()));
    }

    private void change() {
        int lot = lot();
        switch (random.nextInt(6)) {
            case 0, 1 -> next("split", lot, 1 + random.nextInt(3));
            case 2, 3 -> next("mix", lot, like(lot));
            case 4 -> next("move", lot, shelf());
            default -> next("ship", random.nextInt(2), 1 + random.nextInt(5));
        }
    }

    private void text() {
        int lot = lot();
        String[] commands = {"receive 0 3 0+2", "wait 1", "split " + lot + " 1", "mix " + lot + "&" + like(lot), "move " + lot + ">" + shelf(),
            "ship 0 2", "recall " + lot, "compost", "count " + shelf(), "shelf 1 9", "wait"};
        String text = commands[random.nextInt(commands.length)] + ";" + commands[random.nextInt(10)];
        for (char character : text.toCharArray()) {
            next("feed", character);
        }
        next("execute");
    }

    private void next(String name, Object... values) {
        int parameters = MODEL.get(name).getParameterCount();
        Object[] call = new Object[1 + parameters];
        call[0] = name;
        System.arraycopy(values, 0, call, 1, parameters);
        told.add(call);
        answer(model, MODEL, call);
    }

    private void lookAtEverything() {
        int from = 0;
        while (from < LOOKS.size() && wrong.equals("none")) {
            int to = Math.min(LOOKS.size(), from + CALLS - told.size());
            compare(LOOKS.subList(from, to));
            // A line is written and read by the same object.
            while (to < LOOKS.size() && LOOKS.get(to)[0].equals("lineCharacter")) {
                to--;
            }
            from = to;
        }
    }

    private void compare(List<Object[]> looks) {
        PromiseDepot depot = new PromiseDepot();
        ModelDepot other = new ModelDepot();
        List<Object[]> calls = new ArrayList<>(told);
        calls.addAll(looks);
        for (Object[] call : calls) {
            String got = answer(depot, OWN, call);
            String due = answer(other, MODEL, call);
            if (!got.equals(due)) {
                wrong = written(call) + " answered " + got + ", due is " + due + ", after " + written(told.toArray());
                return;
            }
        }
    }

    private static String written(Object[] parts) {
        StringBuilder written = new StringBuilder();
        for (Object part : parts) {
            written.append(written.length() == 0 ? "" : " ").append(part instanceof Object[] call ? "(" + written(call) + ")" : part);
        }
        return written.toString();
    }

    private static String answer(Object target, Map<String, Method> methods, Object[] call) {
        Object[] parameters = new Object[call.length - 1];
        System.arraycopy(call, 1, parameters, 0, parameters.length);
        try {
            return String.valueOf(methods.get((String) call[0]).invoke(target, parameters));
        } catch (InvocationTargetException e) {
            return "throws " + e.getCause().getClass().getSimpleName();
        } catch (IllegalAccessException e) {
            return "no access";
        }
    }
}
