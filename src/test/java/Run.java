import java.lang.reflect.InvocationTargetException;
import java.lang.reflect.Method;
import java.lang.reflect.Modifier;

/**
 * A run of calls on one object, each written with its answer: "split 0 4 = 2", or "split 0 9 = UnsupportedOperation"
 * for the exception. "text wait 1 = 6" feeds characters, and answers the last length; "line 0 = 0k2z0v5e9@1" writes
 * a lot and asks for each character. Calls stand on lines of their own or between bars.
 */
final class Run {
    private static final int CALLS = 512;
    private static final String CHANGES = " addShelf receive split mix move ship recall compost count pass execute ";
    /** Calls that are refused in any state, and that are no denials. */
    private static final String[] REFUSED = {"zoneOf 8", "addShelf 3 1", "recall 20", "pass 0", "split -1 1", "mix 20 20", "move 20 0", "count -1",
        "receive 6 1 1 1", "ship 0 100", "lotByExpiry 8", "lotByExpiry -1", "shelfToCount 8", "shelfFor 0 41", "available 6", "fewestShelves -1",
        "fewestShelvesBySearch 3", "descendsFrom 20 20", "countedDay 8", "lineCharacter -1", "firstToShip -1"};

    private final String name;
    private final String[] rows;
    private final PromiseDepot depot = new PromiseDepot();
    private boolean twice = false;
    private boolean refused = false;
    private int next = 0;
    private int calls = 0;
    private String fed = "";

    Run(String name, String text) {
        this.name = name;
        rows = text.strip().split("\\s*[\\n|]\\s*");
    }

    Run withEachChangeTwice() {
        twice = true;
        return this;
    }

    Run withRefusedCalls() {
        refused = true;
        return this;
    }

    void toItsEnd() {
        boolean more = true;
        while (more) {
            more = step();
        }
    }

    /** Makes the next call; false if there is none. */
    boolean step() {
        if (next >= rows.length) {
            return false;
        }
        int equals = rows[next].lastIndexOf(" = ");
        String call = rows[next].substring(0, equals);
        String due = rows[next].substring(equals + 3);
        check(call, due);
        if (twice && CHANGES.contains(" " + call.split(" ")[0] + " ") && Character.isDigit(due.charAt(0))) {
            makeAgain(call, due);
        }
        if (refused) {
            String other = REFUSED[next % REFUSED.length];
            Check.due(name + ", row " + next + ", " + other + " is refused", Character.isDigit(answer(other).charAt(0)), false);
        }
        if (call.equals("execute")) {
            fed = "";
        }
        next++;
        Check.due(name + ", at most 512 calls", calls <= CALLS, true);
        return true;
    }

    private void check(String call, String due) {
        Check.due(name + ", row " + next + ", " + call, answer(call), due);
    }

    private void makeAgain(String call, String due) {
        int changes = Integer.parseInt(answer("undoCount"));
        check("undo", String.valueOf(changes - 1));
        if (call.equals("execute")) {
            text(fed);
        }
        check(call, due);
        check("undoCount", String.valueOf(changes));
    }

    private String answer(String call) {
        if (call.startsWith("text ")) {
            fed += call.substring(5);
            return text(call.substring(5));
        }
        String[] parts = call.split(" ");
        if (parts[0].equals("line")) {
            return line(parts[1]);
        }
        Object[] arguments = new Object[parts.length - 1];
        for (int i = 0; i < arguments.length; i++) {
            arguments[i] = Integer.parseInt(parts[i + 1]);
        }
        return ask(parts[0], arguments);
    }

    private String text(String characters) {
        String length = "";
        for (char character : characters.toCharArray()) {
            length = ask("feed", character);
        }
        return length;
    }

    private String line(String lot) {
        String length = answer("writeLot " + lot);
        if (!Character.isDigit(length.charAt(0))) {
            return length;
        }
        StringBuilder line = new StringBuilder();
        for (int i = 0; i < Integer.parseInt(length); i++) {
            line.append(answer("lineCharacter " + i));
        }
        return line.toString();
    }

    private String ask(String name, Object... arguments) {
        calls++;
        for (Method method : PromiseDepot.class.getDeclaredMethods()) {
            if (method.getName().equals(name) && Modifier.isPublic(method.getModifiers())) {
                try {
                    return String.valueOf(method.invoke(depot, arguments));
                } catch (InvocationTargetException e) {
                    return e.getCause().getClass().getSimpleName().replace("Exception", "");
                } catch (IllegalAccessException e) {
                    return "no access";
                }
            }
        }
        return "no method " + name;
    }
}
