import java.util.ArrayDeque;
import java.util.ArrayList;
import java.util.Comparator;
import java.util.Deque;
import java.util.HashSet;
import java.util.List;
import java.util.NoSuchElementException;
import java.util.Set;
import java.util.regex.Matcher;
import java.util.regex.Pattern;
import java.util.stream.Collectors;

/**
 * The same document once more, by lists, exceptions and regular expressions, and with no regard to
 * speed: RandomRunsTest asks both programs the same and compares.
 */
public final class ModelDepot {
    private static final Pattern COMMAND = Pattern.compile("(?:(shelf) (\\d) (\\d\\d?)|(receive) (\\d) (\\d\\d?) (\\d)\\+(\\d\\d?)"
            + "|(split) (\\d\\d?) (\\d\\d?)|(mix) (\\d\\d?)&(\\d\\d?)|(move) (\\d\\d?)>(\\d)|(ship) (\\d) (\\d\\d?)"
            + "|(recall) (\\d\\d?)|(compost)|(count) (\\d)|(wait) (\\d\\d?))");
    private static final Pattern TEXT = Pattern.compile(COMMAND.pattern() + "(?:;" + COMMAND.pattern() + ")*");

    private static final class Shelf {
        int zone;
        int capacity;
        Integer counted;
    }

    private static final class Lot {
        int number;
        int kind;
        int zone;
        int volume;
        int expiry;
        /** The index of a shelf, "h" or "-". */
        String place;
        List<Integer> parents = new ArrayList<>();
    }

    private static final class State {
        List<Shelf> shelves = new ArrayList<>();
        List<Lot> lots = new ArrayList<>();
        int day;
        int shipped;
        int composted;

        State copy() {
            State s = new State();
            for (Shelf o : shelves) {
                Shelf n = new Shelf();
                n.zone = o.zone;
                n.capacity = o.capacity;
                n.counted = o.counted;
                s.shelves.add(n);
            }
            for (Lot o : lots) {
                Lot n = new Lot();
                n.number = o.number;
                n.kind = o.kind;
                n.zone = o.zone;
                n.volume = o.volume;
                n.expiry = o.expiry;
                n.place = o.place;
                n.parents = new ArrayList<>(o.parents);
                s.lots.add(n);
            }
            s.day = day;
            s.shipped = shipped;
            s.composted = composted;
            return s;
        }
    }

    private static final class Denied extends UnsupportedOperationException {
        private static final long serialVersionUID = 1;
        final int number;
        final int detail;

        Denied(int number, int detail) {
            this.number = number;
            this.detail = detail;
        }
    }

    private State s = new State();
    private State snapshot;
    private final Deque<State> undo = new ArrayDeque<>();
    private final StringBuilder text = new StringBuilder();
    private String line = "";
    private Integer fault;
    private int[] denial;

    private interface Change {
        int run();
    }

    private int changing(Change change) {
        State before = s.copy();
        int answer;
        try {
            answer = change.run();
        } catch (Denied e) {
            s = before;
            denial = new int[] {e.number, e.detail, -1};
            throw new UnsupportedOperationException();
        } catch (RuntimeException e) {
            s = before;
            throw e;
        }
        remember(before);
        return answer;
    }

    private void remember(State before) {
        undo.addLast(before);
        if (undo.size() > 8) {
            undo.removeFirst();
        }
    }

    private static void range(int value, int least, int greatest) {
        if (value < least || value > greatest) {
            throw new IllegalArgumentException();
        }
    }

    private static void must(boolean holds, int number, int detail) {
        if (!holds) {
            throw new Denied(number, detail);
        }
    }

    private Shelf shelf(int i) {
        if (i < 0 || i >= s.shelves.size()) {
            throw new IndexOutOfBoundsException();
        }
        return s.shelves.get(i);
    }

    private Lot lot(int i) {
        if (i < 0 || i >= s.lots.size()) {
            throw new NoSuchElementException();
        }
        return s.lots.get(i);
    }

    private static boolean shelved(Lot l) {
        return !l.place.equals("h") && !l.place.equals("-");
    }

    private boolean expired(Lot l) {
        return s.day > l.expiry;
    }

    private List<Lot> shelved() {
        return s.lots.stream().filter(ModelDepot::shelved).collect(Collectors.toList());
    }

    private List<Lot> on(String place) {
        return s.lots.stream().filter(l -> l.place.equals(place)).collect(Collectors.toList());
    }

    private static int volume(List<Lot> lots) {
        return lots.stream().mapToInt(l -> l.volume).sum();
    }

    private int room(int shelf) {
        return s.shelves.get(shelf).capacity - volume(on("" + shelf));
    }

    /** -1 if there is none. */
    private int placing(int zone, int volume) {
        List<Integer> fit = new ArrayList<>();
        for (int i = 0; i < s.shelves.size(); i++) {
            if (s.shelves.get(i).zone == zone && room(i) >= volume) {
                fit.add(i);
            }
        }
        return fit.stream().min(Comparator.comparingInt(this::room).thenComparingInt(i -> i)).orElse(-1);
    }

    private Lot come(int kind, int volume, int zone, int expiry, int shelf) {
        Lot l = new Lot();
        l.number = s.lots.size();
        l.kind = kind;
        l.volume = volume;
        l.zone = zone;
        l.expiry = expiry;
        l.place = "" + shelf;
        s.lots.add(l);
        return l;
    }

    private static void go(Lot l) {
        l.volume = 0;
        l.place = "-";
    }

    public int addShelf(int zone, int capacity) {
        return changing(() -> addShelf0(zone, capacity));
    }

    private int addShelf0(int zone, int capacity) {
        range(zone, 0, 2);
        range(capacity, 1, 40);
        must(s.shelves.size() < 8, 1, 8);
        Shelf n = new Shelf();
        n.zone = zone;
        n.capacity = capacity;
        s.shelves.add(n);
        return s.shelves.size() - 1;
    }

    public int count(int shelf) {
        return changing(() -> count0(shelf));
    }

    private int count0(int shelf) {
        shelf(shelf).counted = s.day;
        return on("" + shelf).size();
    }

    public int shelfCount() {
        return s.shelves.size();
    }

    public int zoneOf(int shelf) {
        return shelf(shelf).zone;
    }

    public int roomOf(int shelf) {
        shelf(shelf);
        return room(shelf);
    }

    public int lotsOn(int shelf) {
        shelf(shelf);
        return on("" + shelf).size();
    }

    private static int orNone(int value) {
        if (value < 0) {
            throw new NoSuchElementException();
        }
        return value;
    }

    public int shelfFor(int zone, int volume) {
        range(zone, 0, 2);
        range(volume, 1, 40);
        return orNone(placing(zone, volume));
    }

    public int countedDay(int shelf) {
        Integer counted = shelf(shelf).counted;
        return orNone(counted == null ? -1 : counted);
    }

    public int shelfToCount(int rank) {
        List<Integer> order = new ArrayList<>();
        for (int i = 0; i < s.shelves.size(); i++) {
            order.add(i);
        }
        order.sort(Comparator.<Integer>comparingInt(i -> s.shelves.get(i).counted == null ? 0 : 1)
                .thenComparingInt(i -> s.shelves.get(i).counted == null ? 0 : s.shelves.get(i).counted)
                .thenComparingInt(i -> -on("" + i).size()).thenComparingInt(i -> i));
        return pick(order, rank);
    }

    private static int pick(List<Integer> order, int rank) {
        if (rank < 0 || rank >= order.size()) {
            throw new NoSuchElementException();
        }
        return order.get(rank);
    }

    public int fewestShelves(int zone) {
        range(zone, 0, 2);
        List<Integer> capacities = new ArrayList<>();
        for (Shelf shelf : s.shelves) {
            if (shelf.zone == zone) {
                capacities.add(shelf.capacity);
            }
        }
        List<Integer> volumes = shelved().stream().filter(l -> l.zone == zone).map(l -> l.volume).collect(Collectors.toList());
        int best = 9;
        for (int choice = 0; choice < 1 << capacities.size(); choice++) {
            if (Integer.bitCount(choice) < best) {
                int[] rooms = new int[capacities.size()];
                for (int i = 0; i < rooms.length; i++) {
                    rooms[i] = (choice >> i & 1) == 1 ? capacities.get(i) : 0;
                }
                if (fit(volumes, 0, rooms)) {
                    best = Integer.bitCount(choice);
                }
            }
        }
        return best;
    }

    private static boolean fit(List<Integer> volumes, int next, int[] rooms) {
        if (next == volumes.size()) {
            return true;
        }
        Set<Integer> tried = new HashSet<>();
        for (int i = 0; i < rooms.length; i++) {
            if (rooms[i] >= volumes.get(next) && tried.add(rooms[i])) {
                rooms[i] -= volumes.get(next);
                boolean fits = fit(volumes, next + 1, rooms);
                rooms[i] += volumes.get(next);
                if (fits) {
                    return true;
                }
            }
        }
        return false;
    }

    public int fewestShelvesBySearch(int zone) {
        return fewestShelves(zone);
    }

    public int receive(int kind, int volume, int zone, int days) {
        return changing(() -> receive0(kind, volume, zone, days));
    }

    private int receive0(int kind, int volume, int zone, int days) {
        range(kind, 0, 5);
        range(volume, 1, 40);
        range(zone, 0, 2);
        range(days, 0, 99);
        must(s.lots.size() < 20, 1, 20);
        must(shelved().size() < 8, 1, 8);
        int shelf = placing(zone, volume);
        must(shelf >= 0, 2, volume);
        return come(kind, volume, zone, s.day + days, shelf).number;
    }

    public int split(int lot, int volume) {
        return changing(() -> split0(lot, volume));
    }

    private int split0(int lot, int volume) {
        Lot l = lot(lot);
        range(volume, 1, 40);
        must(shelved(l), 5, lot);
        must(!expired(l), 3, lot);
        must(l.volume > volume, 6, l.volume);
        must(s.lots.size() < 20, 1, 20);
        must(shelved().size() < 8, 1, 8);
        l.volume -= volume;
        Lot part = come(l.kind, volume, l.zone, l.expiry, Integer.parseInt(l.place));
        part.parents.add(lot);
        return part.number;
    }

    public int mix(int first, int second) {
        return changing(() -> mix0(first, second));
    }

    private int mix0(int first, int second) {
        Lot a = lot(first);
        Lot b = lot(second);
        if (first == second) {
            throw new IllegalArgumentException();
        }
        must(shelved(a), 5, first);
        must(shelved(b), 5, second);
        must(!expired(a), 3, first);
        must(!expired(b), 3, second);
        must(a.kind == b.kind && a.zone == b.zone, 4, b.zone);
        must(s.lots.size() < 20, 1, 20);
        int volume = a.volume + b.volume;
        go(a);
        go(b);
        int shelf = placing(a.zone, volume);
        must(shelf >= 0, 2, volume);
        Lot mixed = come(a.kind, volume, a.zone, Math.min(a.expiry, b.expiry), shelf);
        mixed.parents.add(first);
        mixed.parents.add(second);
        return mixed.number;
    }

    public int move(int lot, int shelf) {
        return changing(() -> move0(lot, shelf));
    }

    private int move0(int lot, int shelf) {
        Lot l = lot(lot);
        Shelf to = shelf(shelf);
        must(shelved(l), 5, lot);
        must(!expired(l), 3, lot);
        must(l.zone == to.zone, 4, to.zone);
        l.place = "nowhere";
        must(room(shelf) >= l.volume, 2, l.volume);
        l.place = "" + shelf;
        return room(shelf);
    }

    private List<Lot> toShip(int kind) {
        return shelved().stream().filter(l -> l.kind == kind && !expired(l))
                .sorted(Comparator.comparingInt((Lot l) -> l.expiry).thenComparingInt(l -> l.number)).collect(Collectors.toList());
    }

    public int ship(int kind, int volume) {
        return changing(() -> ship0(kind, volume));
    }

    private int ship0(int kind, int volume) {
        range(kind, 0, 5);
        range(volume, 1, 99);
        must(available(kind) >= volume, 6, available(kind));
        int left = volume;
        int taken = 0;
        for (Lot l : toShip(kind)) {
            int part = Math.min(left, l.volume);
            if (part > 0) {
                taken++;
                l.volume -= part;
                left -= part;
                if (l.volume == 0) {
                    go(l);
                }
            }
        }
        s.shipped += volume;
        return taken;
    }

    private Set<Integer> below(int lot) {
        Set<Integer> found = new HashSet<>();
        boolean more = true;
        while (more) {
            more = false;
            for (Lot l : s.lots) {
                if (l.parents.contains(lot) || l.parents.stream().anyMatch(found::contains)) {
                    more |= found.add(l.number);
                }
            }
        }
        return found;
    }

    private List<Lot> toRecall(int lot) {
        Set<Integer> below = below(lot);
        return shelved().stream().filter(l -> l.number == lot || below.contains(l.number)).collect(Collectors.toList());
    }

    public int recall(int lot) {
        return changing(() -> recall0(lot));
    }

    private int recall0(int lot) {
        lot(lot);
        List<Lot> recalled = toRecall(lot);
        recalled.forEach(l -> l.place = "h");
        return recalled.size();
    }

    public int lotCount() {
        return s.lots.size();
    }

    public boolean isOnShelf(int lot) {
        return shelved(lot(lot));
    }

    public int shelfOf(int lot) {
        return orNone(shelved(lot(lot)) ? Integer.parseInt(lot(lot).place) : -1);
    }

    public int volumeOf(int lot) {
        return lot(lot).volume;
    }

    public int expiryOf(int lot) {
        return lot(lot).expiry;
    }

    public boolean isExpired(int lot) {
        return expired(lot(lot));
    }

    public int parentCount(int lot) {
        return lot(lot).parents.size();
    }

    public int descendants(int lot) {
        lot(lot);
        return below(lot).size();
    }

    public int descendantsByTable(int lot) {
        return descendants(lot);
    }

    public boolean descendsFrom(int lot, int ancestor) {
        lot(lot);
        lot(ancestor);
        return below(ancestor).contains(lot);
    }

    public int recallSize(int lot) {
        lot(lot);
        return toRecall(lot).size();
    }

    public int available(int kind) {
        range(kind, 0, 5);
        return volume(toShip(kind));
    }

    public int firstToShip(int kind) {
        range(kind, 0, 5);
        return orNone(toShip(kind).isEmpty() ? -1 : toShip(kind).get(0).number);
    }

    public int lotByExpiry(int rank) {
        return pick(shelved().stream().sorted(Comparator.comparingInt((Lot l) -> l.expiry).thenComparingInt(l -> l.number))
                .map(l -> l.number).collect(Collectors.toList()), rank);
    }

    private List<Lot> toCompost() {
        return on("h").stream().sorted(Comparator.comparingInt((Lot l) -> -l.volume).thenComparingInt(l -> l.expiry)
                .thenComparingInt(l -> l.number)).collect(Collectors.toList());
    }

    public int compost() {
        return changing(this::compost0);
    }

    private int compost0() {
        must(!on("h").isEmpty(), 7, shelved().size());
        Lot l = toCompost().get(0);
        int volume = l.volume;
        go(l);
        s.composted += volume;
        return volume;
    }

    public int heapSize() {
        return on("h").size();
    }

    public int nextCompost() {
        return orNone(on("h").isEmpty() ? -1 : toCompost().get(0).number);
    }

    public int nextCompostByScan() {
        return nextCompost();
    }

    public int pass(int days) {
        return changing(() -> pass0(days));
    }

    private int pass0(int days) {
        range(days, 1, 99);
        int become = 0;
        for (int i = 0; i < days; i++) {
            become += (int) shelved().stream().filter(l -> l.expiry == s.day).count();
            s.day++;
        }
        return become;
    }

    public int day() {
        return s.day;
    }

    public int received() {
        return stored() + heaped() + s.shipped + s.composted;
    }

    public int stored() {
        return volume(shelved());
    }

    public int heaped() {
        return volume(on("h"));
    }

    public int shipped() {
        return s.shipped;
    }

    public int composted() {
        return s.composted;
    }

    private int shelvedOrNone() {
        if (shelved().isEmpty()) {
            throw new ArithmeticException();
        }
        return shelved().size();
    }

    public double meanVolume() {
        return (double) stored() / (double) shelvedOrNone();
    }

    public float expiredShare() {
        return (float) shelved().stream().filter(this::expired).count() / (float) shelvedOrNone();
    }

    public int feed(char character) {
        if (text.length() == 60) {
            throw new IllegalStateException();
        }
        text.append(character);
        return text.length();
    }

    private static boolean mayGoOn(String start) {
        Matcher m = TEXT.matcher(start);
        return m.matches() || m.hitEnd();
    }

    public int execute() {
        String all = text.toString();
        text.setLength(0);
        if (!TEXT.matcher(all).matches()) {
            int i = 0;
            while (i < all.length() && mayGoOn(all.substring(0, i + 1))) {
                i++;
            }
            fault = i;
            throw new IllegalArgumentException();
        }
        State before = s.copy();
        String[] commands = all.split(";");
        for (int i = 0; i < commands.length; i++) {
            try {
                command(commands[i]);
            } catch (Denied e) {
                fail(before, i, e.number);
            } catch (RuntimeException e) {
                fail(before, i, 9);
            }
        }
        remember(before);
        return commands.length;
    }

    private void fail(State before, int index, int cause) {
        s = before;
        denial = new int[] {8, index, cause};
        throw new UnsupportedOperationException();
    }

    private void command(String command) {
        String[] words = command.split("[^a-z0-9]");
        int[] p = new int[4];
        for (int i = 1; i < words.length; i++) {
            p[i - 1] = Integer.parseInt(words[i]);
        }
        switch (words[0]) {
            case "shelf" -> addShelf0(p[0], p[1]);
            case "receive" -> receive0(p[0], p[1], p[2], p[3]);
            case "split" -> split0(p[0], p[1]);
            case "mix" -> mix0(p[0], p[1]);
            case "move" -> move0(p[0], p[1]);
            case "ship" -> ship0(p[0], p[1]);
            case "recall" -> recall0(p[0]);
            case "compost" -> compost0();
            case "count" -> count0(p[0]);
            default -> pass0(p[0]);
        }
    }

    public int faultPosition() {
        return orNone(fault == null ? -1 : fault);
    }

    public int writeLot(int lot) {
        Lot l = lot(lot);
        line = l.number + "k" + l.kind + "z" + l.zone + "v" + l.volume + "e" + l.expiry + (expired(l) ? "!" : "")
                + (shelved(l) ? "@" : "") + l.place + l.parents.stream().map(p -> "<" + p).collect(Collectors.joining());
        return line.length();
    }

    public char lineCharacter(int index) {
        if (index < 0 || index >= line.length()) {
            throw new IndexOutOfBoundsException();
        }
        return line.charAt(index);
    }

    public int denial() {
        return orNone(denial == null ? -1 : denial[0]);
    }

    public int denialDetail() {
        return orNone(denial == null ? -1 : denial[1]);
    }

    public int denialCause() {
        return orNone(denial == null ? -1 : denial[2]);
    }

    public int undo() {
        if (undo.isEmpty()) {
            throw new IllegalStateException();
        }
        s = undo.removeLast();
        return undo.size();
    }

    public int undoCount() {
        return undo.size();
    }

    public int saveSnapshot() {
        snapshot = s.copy();
        return s.lots.size();
    }

    public int restoreSnapshot() {
        if (snapshot == null) {
            throw new IllegalStateException();
        }
        s = snapshot.copy();
        undo.clear();
        return s.lots.size();
    }
}
