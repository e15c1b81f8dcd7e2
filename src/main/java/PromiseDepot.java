import java.util.NoSuchElementException;

/**
 * A depot of lots that expire: shelves in zones, lots that are split and mixed and traced by their
 * descent, shipping by expiry, recalls, a compost heap, counts of shelves in turn, and the fewest
 * shelves that would do. An object is not safe for use by several threads at once.
 */
public final class PromiseDepot {
    private static final int ZONES = 3;
    private static final int KINDS = 6;
    private static final int SHELF_LIMIT = 8;
    private static final int LOT_LIMIT = 20;
    private static final int SHELVED_LIMIT = 8;
    private static final int GREATEST_VOLUME = 40;
    private static final int GREATEST_NUMBER = 99;
    private static final int TEXT_LIMIT = 60;
    private static final int UNDO_LIMIT = 8;
    private static final int PARAMETER_LIMIT = 4;

    /** Stands for a missing lot, shelf or parent. */
    private static final int NONE = -1;
    /** Stands for the day of a count that never was. */
    private static final int NEVER = -1;

    /** The place of a lot is the index of its shelf, or one of these two. */
    private static final int ON_HEAP = -1;
    private static final int GONE = -2;

    /** A verdict is FINE, the number of a denial, or one of the negative numbers. */
    private static final int FINE = 0;
    private static final int LIMIT_REACHED = 1;
    private static final int NO_ROOM = 2;
    private static final int LOT_EXPIRED = 3;
    private static final int NOT_ALIKE = 4;
    private static final int NOT_ON_SHELF = 5;
    private static final int TOO_LITTLE = 6;
    private static final int HEAP_EMPTY = 7;
    private static final int COMMAND_FAILED = 8;
    private static final int FAILED_OTHERWISE = 9;
    private static final int NO_SUCH_LOT = -1;
    private static final int NO_SUCH_SHELF = -2;
    private static final int BAD_ARGUMENT = -3;

    private static final int ADD_SHELF = 0;
    private static final int RECEIVE = 1;
    private static final int SPLIT = 2;
    private static final int MIX = 3;
    private static final int MOVE = 4;
    private static final int SHIP = 5;
    private static final int RECALL = 6;
    private static final int COMPOST = 7;
    private static final int COUNT = 8;
    private static final int PASS = 9;
    private static final int COMMANDS = 10;

    private final Stock stock;
    /** Takes the commands of a text, so that the stock is untouched if one of them fails. */
    private final Stock draft;
    private final Stock snapshot;
    private final History history;
    private final Gate gate;
    private final Descent descent;
    private final Packing packing;
    private final Text text;
    private final StringBuilder line;
    private boolean hasSnapshot;
    private int latestDenial;
    private int latestDetail;
    private int latestCause;

    public PromiseDepot() {
        stock = new Stock();
        draft = new Stock();
        snapshot = new Stock();
        history = new History();
        gate = new Gate();
        descent = new Descent();
        packing = new Packing();
        text = new Text();
        line = new StringBuilder();
        hasSnapshot = false;
        latestDenial = NONE;
        latestDetail = 0;
        latestCause = NONE;
    }

    // ---- shelves

    public int addShelf(int zone, int capacity) throws IllegalArgumentException, UnsupportedOperationException {
        return change(ADD_SHELF, zone, capacity, 0, 0);
    }

    public int count(int shelf) throws IndexOutOfBoundsException {
        return change(COUNT, shelf, 0, 0, 0);
    }

    public int shelfCount() {
        return stock.shelves.size;
    }

    public int zoneOf(int shelf) throws IndexOutOfBoundsException {
        requireShelf(shelf);
        return stock.shelves.zones.get(shelf);
    }

    public int roomOf(int shelf) throws IndexOutOfBoundsException {
        requireShelf(shelf);
        return stock.roomWithout(shelf, NONE, NONE);
    }

    public int lotsOn(int shelf) throws IndexOutOfBoundsException {
        requireShelf(shelf);
        return stock.lots.countAt(shelf);
    }

    public int shelfFor(int zone, int volume) throws IllegalArgumentException, NoSuchElementException {
        requireRange(zone, 0, ZONES - 1);
        requireRange(volume, 1, GREATEST_VOLUME);
        return requireFound(stock.placeFor(zone, volume, NONE, NONE));
    }

    public int countedDay(int shelf) throws IndexOutOfBoundsException, NoSuchElementException {
        requireShelf(shelf);
        return requireFound(stock.shelves.countedDays.get(shelf));
    }

    public int shelfToCount(int rank) throws NoSuchElementException {
        return requireFound(stock.shelfAtRank(rank));
    }

    public int fewestShelves(int zone) throws IllegalArgumentException {
        requireRange(zone, 0, ZONES - 1);
        return packing.fewestBySets(stock, zone);
    }

    public int fewestShelvesBySearch(int zone) throws IllegalArgumentException {
        requireRange(zone, 0, ZONES - 1);
        return packing.fewestBySearch(stock, zone);
    }

    // ---- lots

    public int receive(int kind, int volume, int zone, int days) throws IllegalArgumentException, UnsupportedOperationException {
        return change(RECEIVE, kind, volume, zone, days);
    }

    public int split(int lot, int volume) throws NoSuchElementException, IllegalArgumentException, UnsupportedOperationException {
        return change(SPLIT, lot, volume, 0, 0);
    }

    public int mix(int first, int second) throws NoSuchElementException, IllegalArgumentException, UnsupportedOperationException {
        return change(MIX, first, second, 0, 0);
    }

    public int move(int lot, int shelf) throws NoSuchElementException, IndexOutOfBoundsException, UnsupportedOperationException {
        return change(MOVE, lot, shelf, 0, 0);
    }

    public int ship(int kind, int volume) throws IllegalArgumentException, UnsupportedOperationException {
        return change(SHIP, kind, volume, 0, 0);
    }

    public int recall(int lot) throws NoSuchElementException {
        return change(RECALL, lot, 0, 0, 0);
    }

    public int lotCount() {
        return stock.lots.size;
    }

    public boolean isOnShelf(int lot) throws NoSuchElementException {
        requireLot(lot);
        return stock.lots.isShelved(lot);
    }

    public int shelfOf(int lot) throws NoSuchElementException {
        requireLot(lot);
        return requireFound(stock.lots.places.get(lot));
    }

    public int volumeOf(int lot) throws NoSuchElementException {
        requireLot(lot);
        return stock.lots.volumes.get(lot);
    }

    public int expiryOf(int lot) throws NoSuchElementException {
        requireLot(lot);
        return stock.lots.expiries.get(lot);
    }

    public boolean isExpired(int lot) throws NoSuchElementException {
        requireLot(lot);
        return stock.hasExpired(lot);
    }

    public int parentCount(int lot) throws NoSuchElementException {
        requireLot(lot);
        return stock.lots.parentsOf(lot);
    }

    public int descendants(int lot) throws NoSuchElementException {
        requireLot(lot);
        return Integer.bitCount(Descent.setInDepth(stock.lots, lot));
    }

    public int descendantsByTable(int lot) throws NoSuchElementException {
        requireLot(lot);
        return descent.countByTable(stock.lots, lot);
    }

    public boolean descendsFrom(int lot, int ancestor) throws NoSuchElementException {
        requireLot(lot);
        requireLot(ancestor);
        return (Descent.setInDepth(stock.lots, ancestor) >> lot & 1) == 1;
    }

    public int recallSize(int lot) throws NoSuchElementException {
        requireLot(lot);
        return Integer.bitCount(Descent.shelvedFamily(stock.lots, lot));
    }

    public int available(int kind) throws IllegalArgumentException {
        requireRange(kind, 0, KINDS - 1);
        return stock.shippableVolume(kind);
    }

    public int firstToShip(int kind) throws IllegalArgumentException, NoSuchElementException {
        requireRange(kind, 0, KINDS - 1);
        return requireFound(stock.earliestShippable(kind));
    }

    public int lotByExpiry(int rank) throws NoSuchElementException {
        return requireFound(stock.shelvedAtRank(rank));
    }

    // ---- heap

    public int compost() throws UnsupportedOperationException {
        return change(COMPOST, 0, 0, 0, 0);
    }

    public int heapSize() {
        return stock.heap.size;
    }

    public int nextCompost() throws NoSuchElementException {
        return requireFound(stock.heap.top());
    }

    public int nextCompostByScan() throws NoSuchElementException {
        return requireFound(CompostHeap.firstByScan(stock.lots));
    }

    // ---- days and accounts

    public int pass(int days) throws IllegalArgumentException {
        return change(PASS, days, 0, 0, 0);
    }

    public int day() {
        return stock.today;
    }

    public int received() {
        return stock.receivedVolume;
    }

    public int stored() {
        return stock.lots.shelvedVolume();
    }

    public int heaped() {
        return stock.lots.volumeAt(ON_HEAP);
    }

    public int shipped() {
        return stock.shippedVolume;
    }

    public int composted() {
        return stock.compostedVolume;
    }

    public double meanVolume() throws ArithmeticException {
        int lots = stock.lots.shelvedCount();
        if (lots == 0) {
            throw new ArithmeticException("no lots are on shelves");
        }
        return (double) stock.lots.shelvedVolume() / (double) lots;
    }

    public float expiredShare() throws ArithmeticException {
        int lots = stock.lots.shelvedCount();
        if (lots == 0) {
            throw new ArithmeticException("no lots are on shelves");
        }
        return (float) stock.expiredCount() / (float) lots;
    }

    // ---- texts and output lines

    public int feed(char character) throws IllegalStateException {
        if (text.length >= TEXT_LIMIT) {
            throw new IllegalStateException("the text buffer is full");
        }
        text.append(character);
        return text.length;
    }

    public int execute() throws IllegalArgumentException, UnsupportedOperationException {
        int commands = text.commandsOrFault();
        if (commands == NONE) {
            text.clear();
            throw new IllegalArgumentException("the text does not match the grammar");
        }
        boolean done = runOnDraft(commands);
        text.clear();
        if (!done) {
            throw new UnsupportedOperationException("a command of the text failed");
        }
        history.keep(stock);
        stock.copyFrom(draft);
        return commands;
    }

    public int faultPosition() throws NoSuchElementException {
        return requireFound(text.fault);
    }

    public int writeLot(int lot) throws NoSuchElementException {
        requireLot(lot);
        line.setLength(0);
        line.append(lot);
        line.append('k').append(stock.lots.kinds.get(lot));
        line.append('z').append(stock.lots.zones.get(lot));
        line.append('v').append(stock.lots.volumes.get(lot));
        line.append('e').append(stock.lots.expiries.get(lot));
        if (stock.hasExpired(lot)) {
            line.append('!');
        }
        appendPlace(stock.lots.places.get(lot));
        appendParent(stock.lots.firstParents.get(lot));
        appendParent(stock.lots.secondParents.get(lot));
        return line.length();
    }

    public char lineCharacter(int index) throws IndexOutOfBoundsException {
        if (index < 0 || index >= line.length()) {
            throw new IndexOutOfBoundsException("no such index");
        }
        return line.charAt(index);
    }

    // ---- the latest denial

    public int denial() throws NoSuchElementException {
        return requireFound(latestDenial);
    }

    public int denialDetail() throws NoSuchElementException {
        requireFound(latestDenial);
        return latestDetail;
    }

    public int denialCause() throws NoSuchElementException {
        return requireFound(latestCause);
    }

    // ---- undo and snapshots

    public int undo() throws IllegalStateException {
        if (history.size == 0) {
            throw new IllegalStateException("no change can be undone");
        }
        history.giveBack(stock);
        return history.size;
    }

    public int undoCount() {
        return history.size;
    }

    public int saveSnapshot() {
        snapshot.copyFrom(stock);
        hasSnapshot = true;
        return stock.lots.size;
    }

    public int restoreSnapshot() throws IllegalStateException {
        if (!hasSnapshot) {
            throw new IllegalStateException("there is no snapshot");
        }
        stock.copyFrom(snapshot);
        history.forget();
        return stock.lots.size;
    }

    // ---- inside

    private int change(int command, int a, int b, int c, int d) {
        int verdict = gate.verdict(stock, command, a, b, c, d);
        if (verdict != FINE) {
            refuse(verdict);
        }
        history.keep(stock);
        return Clerk.perform(stock, command, a, b, c, d);
    }

    private void refuse(int verdict) {
        if (verdict == NO_SUCH_LOT) {
            throw new NoSuchElementException("no such lot");
        }
        if (verdict == NO_SUCH_SHELF) {
            throw new IndexOutOfBoundsException("no such shelf");
        }
        if (verdict == BAD_ARGUMENT) {
            throw new IllegalArgumentException("a parameter is out of range");
        }
        keepDenial(verdict, gate.detail, NONE);
        throw new UnsupportedOperationException("denied");
    }

    private void keepDenial(int number, int detail, int cause) {
        latestDenial = number;
        latestDetail = detail;
        latestCause = cause;
    }

    /** Runs the commands of a text that matches the grammar; at the first that fails keeps the denial. */
    private boolean runOnDraft(int commands) {
        draft.copyFrom(stock);
        int start = 0;
        for (int i = 0; i < commands; i++) {
            text.read(start);
            Row values = text.parameters;
            int verdict = gate.verdict(draft, text.command, values.get(0), values.get(1), values.get(2), values.get(3));
            if (verdict != FINE) {
                keepDenial(COMMAND_FAILED, i, verdict > 0 ? verdict : FAILED_OTHERWISE);
                return false;
            }
            Clerk.perform(draft, text.command, values.get(0), values.get(1), values.get(2), values.get(3));
            start = text.position + 1;
        }
        return true;
    }

    private void appendPlace(int place) {
        if (place == GONE) {
            line.append('-');
        } else if (place == ON_HEAP) {
            line.append('h');
        } else {
            line.append('@').append(place);
        }
    }

    private void appendParent(int parent) {
        if (parent != NONE) {
            line.append('<').append(parent);
        }
    }

    private void requireShelf(int shelf) {
        if (!stock.shelves.has(shelf)) {
            throw new IndexOutOfBoundsException("no such shelf");
        }
    }

    private void requireLot(int lot) {
        if (!stock.lots.has(lot)) {
            throw new NoSuchElementException("no such lot");
        }
    }

    private static void requireRange(int value, int least, int greatest) {
        if (value < least || value > greatest) {
            throw new IllegalArgumentException("a parameter is out of range");
        }
    }

    /** Everything that can be missing is told by a negative number, and is else 0 or more. */
    private static int requireFound(int value) {
        if (value < 0) {
            throw new NoSuchElementException("there is none");
        }
        return value;
    }

    /** A row of numbers that looks at each index, so that no use of it can leave the array. */
    private static final class Row {
        private final int[] cells;

        Row(int length) {
            cells = new int[length > 0 ? length : 0];
        }

        int get(int index) {
            return index >= 0 && index < cells.length ? cells[index] : 0;
        }

        void set(int index, int value) {
            if (index >= 0 && index < cells.length) {
                cells[index] = value;
            }
        }

        void fill(int value) {
            for (int i = 0; i < cells.length; i++) {
                cells[i] = value;
            }
        }

        void copyFrom(Row other) {
            System.arraycopy(other.cells, 0, cells, 0, Math.min(cells.length, other.cells.length));
        }
    }

    private static final class Shelves {
        final Row zones = new Row(SHELF_LIMIT);
        final Row capacities = new Row(SHELF_LIMIT);
        final Row countedDays = new Row(SHELF_LIMIT);
        int size = 0;

        void copyFrom(Shelves other) {
            zones.copyFrom(other.zones);
            capacities.copyFrom(other.capacities);
            countedDays.copyFrom(other.countedDays);
            size = other.size;
        }

        boolean has(int shelf) {
            return shelf >= 0 && shelf < size;
        }

        int add(int zone, int capacity) {
            int shelf = size;
            zones.set(shelf, zone);
            capacities.set(shelf, capacity);
            countedDays.set(shelf, NEVER);
            size++;
            return shelf;
        }
    }

    private static final class Lots {
        final Row kinds = new Row(LOT_LIMIT);
        final Row zones = new Row(LOT_LIMIT);
        final Row volumes = new Row(LOT_LIMIT);
        final Row expiries = new Row(LOT_LIMIT);
        final Row places = new Row(LOT_LIMIT);
        final Row firstParents = new Row(LOT_LIMIT);
        final Row secondParents = new Row(LOT_LIMIT);
        int size = 0;

        void copyFrom(Lots other) {
            kinds.copyFrom(other.kinds);
            zones.copyFrom(other.zones);
            volumes.copyFrom(other.volumes);
            expiries.copyFrom(other.expiries);
            places.copyFrom(other.places);
            firstParents.copyFrom(other.firstParents);
            secondParents.copyFrom(other.secondParents);
            size = other.size;
        }

        boolean has(int lot) {
            return lot >= 0 && lot < size;
        }

        int add(int kind, int zone, int volume, int expiry, int shelf) {
            int lot = size;
            kinds.set(lot, kind);
            zones.set(lot, zone);
            volumes.set(lot, volume);
            expiries.set(lot, expiry);
            places.set(lot, shelf);
            firstParents.set(lot, NONE);
            secondParents.set(lot, NONE);
            size++;
            return lot;
        }

        void setParents(int lot, int first, int second) {
            firstParents.set(lot, first);
            secondParents.set(lot, second);
        }

        void remove(int lot) {
            volumes.set(lot, 0);
            places.set(lot, GONE);
        }

        boolean isShelved(int lot) {
            return places.get(lot) >= 0;
        }

        int parentsOf(int lot) {
            return (firstParents.get(lot) == NONE ? 0 : 1) + (secondParents.get(lot) == NONE ? 0 : 1);
        }

        boolean isParent(int parent, int child) {
            return firstParents.get(child) == parent || secondParents.get(child) == parent;
        }

        int countAt(int place) {
            int found = 0;
            for (int lot = 0; lot < size; lot++) {
                if (places.get(lot) == place) {
                    found++;
                }
            }
            return found;
        }

        int volumeAt(int place) {
            int volume = 0;
            for (int lot = 0; lot < size; lot++) {
                if (places.get(lot) == place) {
                    volume += volumes.get(lot);
                }
            }
            return volume;
        }

        int shelvedCount() {
            int found = 0;
            for (int lot = 0; lot < size; lot++) {
                if (isShelved(lot)) {
                    found++;
                }
            }
            return found;
        }

        int shelvedVolume() {
            int volume = 0;
            for (int lot = 0; lot < size; lot++) {
                if (isShelved(lot)) {
                    volume += volumes.get(lot);
                }
            }
            return volume;
        }

        boolean expiresBefore(int lot, int other) {
            int expiry = expiries.get(lot);
            int otherExpiry = expiries.get(other);
            return expiry < otherExpiry || expiry == otherExpiry && lot < other;
        }

        boolean compostsBefore(int lot, int other) {
            int volume = volumes.get(lot);
            int otherVolume = volumes.get(other);
            if (volume != otherVolume) {
                return volume > otherVolume;
            }
            int expiry = expiries.get(lot);
            int otherExpiry = expiries.get(other);
            return expiry < otherExpiry || expiry == otherExpiry && lot < other;
        }
    }

    /** A binary heap of the numbers of the lots on the heap, the one to be composted next on top. */
    private static final class CompostHeap {
        private final Row cells = new Row(LOT_LIMIT);
        int size = 0;

        void copyFrom(CompostHeap other) {
            cells.copyFrom(other.cells);
            size = other.size;
        }

        int top() {
            return size > 0 ? cells.get(0) : NONE;
        }

        void push(Lots lots, int lot) {
            int cell = size;
            cells.set(cell, lot);
            size++;
            while (cell > 0) {
                int parent = (cell - 1) / 2;
                if (!lots.compostsBefore(lot, cells.get(parent))) {
                    break;
                }
                swap(cell, parent);
                cell = parent;
            }
        }

        void removeTop(Lots lots) {
            size--;
            cells.set(0, cells.get(size));
            int cell = 0;
            while (cell < size) {
                int first = firstOfThree(lots, cell);
                if (first <= cell) {
                    break;
                }
                swap(cell, first);
                cell = first;
            }
        }

        /** The cell among a cell and the two below it whose lot is composted before the others. */
        private int firstOfThree(Lots lots, int cell) {
            int first = cell;
            for (int below = 2 * cell + 1; below <= 2 * cell + 2 && below < size; below++) {
                if (lots.compostsBefore(cells.get(below), cells.get(first))) {
                    first = below;
                }
            }
            return first;
        }

        private void swap(int cell, int other) {
            int lot = cells.get(cell);
            cells.set(cell, cells.get(other));
            cells.set(other, lot);
        }

        static int firstByScan(Lots lots) {
            int first = NONE;
            for (int lot = 0; lot < lots.size; lot++) {
                if (lots.places.get(lot) == ON_HEAP && (first == NONE || lots.compostsBefore(lot, first))) {
                    first = lot;
                }
            }
            return first;
        }
    }

    /** Everything that changes can change. */
    private static final class Stock {
        final Shelves shelves = new Shelves();
        final Lots lots = new Lots();
        final CompostHeap heap = new CompostHeap();
        int today = 0;
        int receivedVolume = 0;
        int shippedVolume = 0;
        int compostedVolume = 0;

        void copyFrom(Stock other) {
            shelves.copyFrom(other.shelves);
            lots.copyFrom(other.lots);
            heap.copyFrom(other.heap);
            today = other.today;
            receivedVolume = other.receivedVolume;
            shippedVolume = other.shippedVolume;
            compostedVolume = other.compostedVolume;
        }

        boolean hasExpired(int lot) {
            return today > lots.expiries.get(lot);
        }

        int expiredCount() {
            int expired = 0;
            for (int lot = 0; lot < lots.size; lot++) {
                if (lots.isShelved(lot) && hasExpired(lot)) {
                    expired++;
                }
            }
            return expired;
        }

        /** The room that a shelf would have if two lots, each a lot or NONE, had left it. */
        int roomWithout(int shelf, int first, int second) {
            int room = shelves.capacities.get(shelf);
            for (int lot = 0; lot < lots.size; lot++) {
                if (lots.places.get(lot) == shelf && lot != first && lot != second) {
                    room -= lots.volumes.get(lot);
                }
            }
            return room;
        }

        /** The shelf for some volume after two lots, each a lot or NONE, have left theirs; NONE if none has the room. */
        int placeFor(int zone, int volume, int first, int second) {
            int best = NONE;
            int leastRoom = 0;
            for (int shelf = 0; shelf < shelves.size; shelf++) {
                if (shelves.zones.get(shelf) == zone) {
                    int room = roomWithout(shelf, first, second);
                    if (room >= volume && (best == NONE || room < leastRoom)) {
                        best = shelf;
                        leastRoom = room;
                    }
                }
            }
            return best;
        }

        boolean isShippable(int lot, int kind) {
            return lots.isShelved(lot) && lots.kinds.get(lot) == kind && !hasExpired(lot);
        }

        int shippableVolume(int kind) {
            int volume = 0;
            for (int lot = 0; lot < lots.size; lot++) {
                if (isShippable(lot, kind)) {
                    volume += lots.volumes.get(lot);
                }
            }
            return volume;
        }

        int earliestShippable(int kind) {
            int first = NONE;
            for (int lot = 0; lot < lots.size; lot++) {
                if (isShippable(lot, kind) && (first == NONE || lots.expiresBefore(lot, first))) {
                    first = lot;
                }
            }
            return first;
        }

        int shelvedAtRank(int rank) {
            for (int lot = 0; lot < lots.size; lot++) {
                if (lots.isShelved(lot) && rankOfShelved(lot) == rank) {
                    return lot;
                }
            }
            return NONE;
        }

        private int rankOfShelved(int lot) {
            int rank = 0;
            for (int other = 0; other < lots.size; other++) {
                if (lots.isShelved(other) && lots.expiresBefore(other, lot)) {
                    rank++;
                }
            }
            return rank;
        }

        int shelfAtRank(int rank) {
            for (int shelf = 0; shelf < shelves.size; shelf++) {
                if (rankOfShelf(shelf) == rank) {
                    return shelf;
                }
            }
            return NONE;
        }

        private int rankOfShelf(int shelf) {
            int rank = 0;
            for (int other = 0; other < shelves.size; other++) {
                if (isDueBefore(other, shelf)) {
                    rank++;
                }
            }
            return rank;
        }

        /** NEVER is less than any day, so that shelves that were never counted come first. */
        private boolean isDueBefore(int shelf, int other) {
            int counted = shelves.countedDays.get(shelf);
            int otherCounted = shelves.countedDays.get(other);
            if (counted != otherCounted) {
                return counted < otherCounted;
            }
            int upon = lots.countAt(shelf);
            int otherUpon = lots.countAt(other);
            return upon > otherUpon || upon == otherUpon && shelf < other;
        }
    }

    /** Sets of lots are numbers here, in which bit n stands for lot n. */
    private static final class Descent {
        private final Row table = new Row(LOT_LIMIT * LOT_LIMIT);

        static int setInDepth(Lots lots, int lot) {
            return follow(lots, lot, 0, 0);
        }

        /** Adds the descendants of a lot to those that are seen already. */
        private static int follow(Lots lots, int lot, int seen, int depth) {
            int set = seen;
            if (depth < LOT_LIMIT) {
                for (int child = lot + 1; child < lots.size; child++) {
                    if (lots.isParent(lot, child) && (set >> child & 1) == 0) {
                        set = follow(lots, child, set | 1 << child, depth + 1);
                    }
                }
            }
            return set;
        }

        /** A lot and its descendants, those of them that are on shelves. */
        static int shelvedFamily(Lots lots, int lot) {
            int family = follow(lots, lot, 1 << lot, 0);
            for (int member = 0; member < lots.size; member++) {
                if (!lots.isShelved(member)) {
                    family &= ~(1 << member);
                }
            }
            return family;
        }

        int countByTable(Lots lots, int lot) {
            enterParents(lots);
            for (int middle = 0; middle < lots.size; middle++) {
                joinThrough(middle, lots.size);
            }
            int found = 0;
            for (int other = 0; other < lots.size; other++) {
                found += table.get(cell(lot, other));
            }
            return found;
        }

        private void enterParents(Lots lots) {
            for (int ancestor = 0; ancestor < lots.size; ancestor++) {
                for (int lot = 0; lot < lots.size; lot++) {
                    table.set(cell(ancestor, lot), lots.isParent(ancestor, lot) ? 1 : 0);
                }
            }
        }

        private void joinThrough(int middle, int size) {
            for (int ancestor = 0; ancestor < size; ancestor++) {
                if (table.get(cell(ancestor, middle)) == 1) {
                    for (int lot = 0; lot < size; lot++) {
                        if (table.get(cell(middle, lot)) == 1) {
                            table.set(cell(ancestor, lot), 1);
                        }
                    }
                }
            }
        }

        private static int cell(int ancestor, int lot) {
            return ancestor * LOT_LIMIT + lot;
        }
    }

    /**
     * Finds the fewest shelves that would do. What fits on some number of shelves also fits on as many
     * of the greatest ones, so that only the greatest shelves need to be tried.
     */
    private static final class Packing {
        /** A filling is the place of the last shelf in use times this, and the volume that is on it. */
        private static final int SCALE = 64;
        private static final int NO_FILLING = SHELF_LIMIT * SCALE;

        private final Row capacities = new Row(SHELF_LIMIT);
        private final Row volumes = new Row(SHELVED_LIMIT);
        private final Row rooms = new Row(SHELF_LIMIT);
        private final Row fillings = new Row(1 << SHELVED_LIMIT);
        private int shelfTotal = 0;
        private int lotTotal = 0;

        int fewestBySets(Stock stock, int zone) {
            gather(stock, zone);
            int sets = 1 << lotTotal;
            fillings.set(0, 0);
            for (int set = 1; set < sets; set++) {
                fillings.set(set, leastFilling(set));
            }
            return lotTotal == 0 ? 0 : fillings.get(sets - 1) / SCALE + 1;
        }

        /** The least filling by which the shelves, filled one after the other, hold a set of lots. */
        private int leastFilling(int set) {
            int least = NO_FILLING;
            for (int lot = 0; lot < lotTotal; lot++) {
                if ((set >> lot & 1) == 1) {
                    int others = fillings.get(set ^ 1 << lot);
                    least = Math.min(least, fillingWith(others, volumes.get(lot)));
                }
            }
            return least;
        }

        private int fillingWith(int filling, int volume) {
            int shelf = filling / SCALE;
            if (filling % SCALE + volume <= capacities.get(shelf)) {
                return filling + volume;
            }
            if (volume <= capacities.get(shelf + 1)) {
                return (shelf + 1) * SCALE + volume;
            }
            return NO_FILLING;
        }

        int fewestBySearch(Stock stock, int zone) {
            gather(stock, zone);
            for (int shelves = 0; shelves < shelfTotal; shelves++) {
                rooms.copyFrom(capacities);
                if (lay(volumes, lotTotal, rooms, shelves, 0)) {
                    return shelves;
                }
            }
            return shelfTotal;
        }

        /** Lays a lot and those after it on the first shelves; the rooms are as before if that fails. */
        private static boolean lay(Row volumes, int lots, Row rooms, int shelves, int lot) {
            if (lot >= lots || lot >= SHELVED_LIMIT) {
                return true;
            }
            int volume = volumes.get(lot);
            for (int shelf = 0; shelf < shelves; shelf++) {
                int room = rooms.get(shelf);
                if (room >= volume && !hasRoomBefore(rooms, shelf)) {
                    rooms.set(shelf, room - volume);
                    if (lay(volumes, lots, rooms, shelves, lot + 1)) {
                        return true;
                    }
                    rooms.set(shelf, room);
                }
            }
            return false;
        }

        /** A shelf with the same room as an earlier one fails where that one failed. */
        private static boolean hasRoomBefore(Row rooms, int shelf) {
            for (int earlier = 0; earlier < shelf; earlier++) {
                if (rooms.get(earlier) == rooms.get(shelf)) {
                    return true;
                }
            }
            return false;
        }

        private void gather(Stock stock, int zone) {
            capacities.fill(0);
            volumes.fill(0);
            shelfTotal = 0;
            lotTotal = 0;
            for (int shelf = 0; shelf < stock.shelves.size && shelfTotal < SHELF_LIMIT; shelf++) {
                if (stock.shelves.zones.get(shelf) == zone) {
                    insert(capacities, shelfTotal, stock.shelves.capacities.get(shelf));
                    shelfTotal++;
                }
            }
            for (int lot = 0; lot < stock.lots.size && lotTotal < SHELVED_LIMIT; lot++) {
                if (stock.lots.isShelved(lot) && stock.lots.zones.get(lot) == zone) {
                    insert(volumes, lotTotal, stock.lots.volumes.get(lot));
                    lotTotal++;
                }
            }
        }

        /** Inserts a value into a row that begins with some values in descending order. */
        private static void insert(Row row, int used, int value) {
            int cell = used;
            for (int i = used - 1; i >= 0 && row.get(i) < value; i--) {
                row.set(cell, row.get(i));
                cell = i;
            }
            row.set(cell, value);
        }
    }

    /** Looks at commands before they are performed. */
    private static final class Gate {
        /** The detail of the latest denial that a verdict told. */
        int detail = 0;

        int verdict(Stock stock, int command, int a, int b, int c, int d) {
            switch (command) {
                case ADD_SHELF:
                    return onAddShelf(stock, a, b);
                case RECEIVE:
                    return onReceive(stock, a, b, c, d);
                case SPLIT:
                    return onSplit(stock, a, b);
                case MIX:
                    return onMix(stock, a, b);
                case MOVE:
                    return onMove(stock, a, b);
                case SHIP:
                    return onShip(stock, a, b);
                case RECALL:
                    return stock.lots.has(a) ? FINE : NO_SUCH_LOT;
                case COMPOST:
                    return stock.heap.size > 0 ? FINE : deny(HEAP_EMPTY, stock.lots.shelvedCount());
                case COUNT:
                    return stock.shelves.has(a) ? FINE : NO_SUCH_SHELF;
                default:
                    return isWithin(a, 1, GREATEST_NUMBER) ? FINE : BAD_ARGUMENT;
            }
        }

        private int deny(int number, int reason) {
            detail = reason;
            return number;
        }

        private static boolean isWithin(int value, int least, int greatest) {
            return value >= least && value <= greatest;
        }

        private int onAddShelf(Stock stock, int zone, int capacity) {
            if (!isWithin(zone, 0, ZONES - 1) || !isWithin(capacity, 1, GREATEST_VOLUME)) {
                return BAD_ARGUMENT;
            }
            return stock.shelves.size < SHELF_LIMIT ? FINE : deny(LIMIT_REACHED, SHELF_LIMIT);
        }

        private int onReceive(Stock stock, int kind, int volume, int zone, int days) {
            if (!isWithin(kind, 0, KINDS - 1) || !isWithin(volume, 1, GREATEST_VOLUME)
                    || !isWithin(zone, 0, ZONES - 1) || !isWithin(days, 0, GREATEST_NUMBER)) {
                return BAD_ARGUMENT;
            }
            int verdict = onBothLimits(stock);
            if (verdict != FINE) {
                return verdict;
            }
            return stock.placeFor(zone, volume, NONE, NONE) != NONE ? FINE : deny(NO_ROOM, volume);
        }

        private int onLotLimit(Stock stock) {
            return stock.lots.size < LOT_LIMIT ? FINE : deny(LIMIT_REACHED, LOT_LIMIT);
        }

        private int onBothLimits(Stock stock) {
            if (onLotLimit(stock) != FINE) {
                return LIMIT_REACHED;
            }
            return stock.lots.shelvedCount() < SHELVED_LIMIT ? FINE : deny(LIMIT_REACHED, SHELVED_LIMIT);
        }

        private int onSplit(Stock stock, int lot, int volume) {
            if (!stock.lots.has(lot)) {
                return NO_SUCH_LOT;
            }
            if (!isWithin(volume, 1, GREATEST_VOLUME)) {
                return BAD_ARGUMENT;
            }
            if (!stock.lots.isShelved(lot)) {
                return deny(NOT_ON_SHELF, lot);
            }
            if (stock.hasExpired(lot)) {
                return deny(LOT_EXPIRED, lot);
            }
            int whole = stock.lots.volumes.get(lot);
            return whole > volume ? onBothLimits(stock) : deny(TOO_LITTLE, whole);
        }

        private int onMix(Stock stock, int first, int second) {
            Lots lots = stock.lots;
            if (!lots.has(first) || !lots.has(second)) {
                return NO_SUCH_LOT;
            }
            if (first == second) {
                return BAD_ARGUMENT;
            }
            if (!lots.isShelved(first) || !lots.isShelved(second)) {
                return deny(NOT_ON_SHELF, lots.isShelved(first) ? second : first);
            }
            if (stock.hasExpired(first) || stock.hasExpired(second)) {
                return deny(LOT_EXPIRED, stock.hasExpired(first) ? first : second);
            }
            int zone = lots.zones.get(second);
            if (lots.zones.get(first) != zone || lots.kinds.get(first) != lots.kinds.get(second)) {
                return deny(NOT_ALIKE, zone);
            }
            if (onLotLimit(stock) != FINE) {
                return LIMIT_REACHED;
            }
            int volume = lots.volumes.get(first) + lots.volumes.get(second);
            return stock.placeFor(zone, volume, first, second) != NONE ? FINE : deny(NO_ROOM, volume);
        }

        private int onMove(Stock stock, int lot, int shelf) {
            if (!stock.lots.has(lot)) {
                return NO_SUCH_LOT;
            }
            if (!stock.shelves.has(shelf)) {
                return NO_SUCH_SHELF;
            }
            if (!stock.lots.isShelved(lot)) {
                return deny(NOT_ON_SHELF, lot);
            }
            if (stock.hasExpired(lot)) {
                return deny(LOT_EXPIRED, lot);
            }
            int zone = stock.shelves.zones.get(shelf);
            if (stock.lots.zones.get(lot) != zone) {
                return deny(NOT_ALIKE, zone);
            }
            int volume = stock.lots.volumes.get(lot);
            return stock.roomWithout(shelf, lot, NONE) >= volume ? FINE : deny(NO_ROOM, volume);
        }

        private int onShip(Stock stock, int kind, int volume) {
            if (!isWithin(kind, 0, KINDS - 1) || !isWithin(volume, 1, GREATEST_NUMBER)) {
                return BAD_ARGUMENT;
            }
            int there = stock.shippableVolume(kind);
            return there >= volume ? FINE : deny(TOO_LITTLE, there);
        }
    }

    /** Performs commands for which the verdict is FINE, and tells their answers. */
    private static final class Clerk {
        static int perform(Stock stock, int command, int a, int b, int c, int d) {
            switch (command) {
                case ADD_SHELF:
                    return stock.shelves.add(a, b);
                case RECEIVE:
                    return takeIn(stock, a, b, c, d);
                case SPLIT:
                    return divide(stock, a, b);
                case MIX:
                    return unite(stock, a, b);
                case MOVE:
                    stock.lots.places.set(a, b);
                    return stock.roomWithout(b, NONE, NONE);
                case SHIP:
                    return sendOut(stock, a, b);
                case RECALL:
                    return callBack(stock, a);
                case COMPOST:
                    return takeFromHeap(stock);
                case COUNT:
                    stock.shelves.countedDays.set(a, stock.today);
                    return stock.lots.countAt(a);
                default:
                    return letPass(stock, a);
            }
        }

        private static int takeIn(Stock stock, int kind, int volume, int zone, int days) {
            int shelf = stock.placeFor(zone, volume, NONE, NONE);
            stock.receivedVolume += volume;
            return stock.lots.add(kind, zone, volume, stock.today + days, shelf);
        }

        private static int divide(Stock stock, int lot, int volume) {
            Lots lots = stock.lots;
            lots.volumes.set(lot, lots.volumes.get(lot) - volume);
            int part = lots.add(lots.kinds.get(lot), lots.zones.get(lot), volume, lots.expiries.get(lot), lots.places.get(lot));
            lots.setParents(part, lot, NONE);
            return part;
        }

        private static int unite(Stock stock, int first, int second) {
            Lots lots = stock.lots;
            int zone = lots.zones.get(first);
            int volume = lots.volumes.get(first) + lots.volumes.get(second);
            int expiry = Math.min(lots.expiries.get(first), lots.expiries.get(second));
            lots.remove(first);
            lots.remove(second);
            int shelf = stock.placeFor(zone, volume, NONE, NONE);
            int mixture = lots.add(lots.kinds.get(first), zone, volume, expiry, shelf);
            lots.setParents(mixture, first, second);
            return mixture;
        }

        private static int sendOut(Stock stock, int kind, int volume) {
            Lots lots = stock.lots;
            int left = volume;
            int touched = 0;
            while (left > 0 && touched < SHELVED_LIMIT) {
                int lot = stock.earliestShippable(kind);
                int there = lots.volumes.get(lot);
                if (there > left) {
                    lots.volumes.set(lot, there - left);
                } else {
                    lots.remove(lot);
                }
                left -= Math.min(there, left);
                touched++;
            }
            stock.shippedVolume += volume;
            return touched;
        }

        private static int callBack(Stock stock, int lot) {
            int family = Descent.shelvedFamily(stock.lots, lot);
            for (int member = 0; member < stock.lots.size; member++) {
                if ((family >> member & 1) == 1) {
                    stock.lots.places.set(member, ON_HEAP);
                    stock.heap.push(stock.lots, member);
                }
            }
            return Integer.bitCount(family);
        }

        private static int takeFromHeap(Stock stock) {
            int lot = stock.heap.top();
            int volume = stock.lots.volumes.get(lot);
            stock.heap.removeTop(stock.lots);
            stock.lots.remove(lot);
            stock.compostedVolume += volume;
            return volume;
        }

        private static int letPass(Stock stock, int days) {
            int before = stock.expiredCount();
            stock.today += days;
            return stock.expiredCount() - before;
        }
    }

    /** The text buffer, and the reading of its commands. */
    private static final class Text {
        private final Row characters = new Row(TEXT_LIMIT);
        final Row parameters = new Row(PARAMETER_LIMIT);
        int length = 0;
        int fault = NONE;
        /** The command that was read last, and the index after it, or that of its fault. */
        int command = NONE;
        int position = 0;

        void append(char character) {
            characters.set(length, character);
            length++;
        }

        void clear() {
            length = 0;
        }

        /** The number of commands; NONE if the text does not match the grammar, and the fault is kept. */
        int commandsOrFault() {
            int start = 0;
            for (int commands = 1; commands <= TEXT_LIMIT; commands++) {
                if (!read(start)) {
                    break;
                }
                if (position == length) {
                    return commands;
                }
                if (characterAt(position) != ';') {
                    break;
                }
                start = position + 1;
            }
            fault = position;
            return NONE;
        }

        /** Reads the command at a position, if there is one. */
        boolean read(int start) {
            int furthest = start;
            for (int candidate = 0; candidate < COMMANDS; candidate++) {
                if (fits(pattern(candidate), start)) {
                    command = candidate;
                    return true;
                }
                furthest = Math.max(furthest, position);
            }
            position = furthest;
            return false;
        }

        /** In a pattern # stands for a digit and * for a number, all else for itself. */
        private static String pattern(int command) {
            switch (command) {
                case ADD_SHELF:
                    return "shelf # *";
                case RECEIVE:
                    return "receive # * #+*";
                case SPLIT:
                    return "split * *";
                case MIX:
                    return "mix *&*";
                case MOVE:
                    return "move *>#";
                case SHIP:
                    return "ship # *";
                case RECALL:
                    return "recall *";
                case COMPOST:
                    return "compost";
                case COUNT:
                    return "count #";
                default:
                    return "wait *";
            }
        }

        private boolean fits(String pattern, int start) {
            position = start;
            int taken = 0;
            for (int i = 0; i < pattern.length(); i++) {
                char sign = pattern.charAt(i);
                if (sign == '#' || sign == '*') {
                    if (!takeDigits(sign == '#' ? 1 : 2, taken)) {
                        return false;
                    }
                    taken++;
                } else if (characterAt(position) == sign) {
                    position++;
                } else {
                    return false;
                }
            }
            return true;
        }

        private boolean takeDigits(int most, int parameter) {
            int value = 0;
            int digits = 0;
            while (digits < most && isDigit(characterAt(position))) {
                value = 10 * value + characterAt(position) - '0';
                position++;
                digits++;
            }
            parameters.set(parameter, value);
            return digits > 0;
        }

        private int characterAt(int index) {
            return index < length ? characters.get(index) : NONE;
        }

        private static boolean isDigit(int character) {
            return character >= '0' && character <= '9';
        }
    }

    /** The states before the latest changes, in a ring. */
    private static final class History {
        private final Stock[] ring = new Stock[UNDO_LIMIT];
        private int next = 0;
        int size = 0;

        History() {
            for (int i = 0; i < ring.length; i++) {
                ring[i] = new Stock();
            }
        }

        void keep(Stock stock) {
            if (next >= 0 && next < ring.length && ring[next] != null) {
                ring[next].copyFrom(stock);
            }
            next = (next + 1) % UNDO_LIMIT;
            size = Math.min(size + 1, UNDO_LIMIT);
        }

        /** Gives the latest kept state back to the stock; there must be one. */
        void giveBack(Stock stock) {
            next = (next + UNDO_LIMIT - 1) % UNDO_LIMIT;
            size--;
            if (next >= 0 && next < ring.length && ring[next] != null) {
                stock.copyFrom(ring[next]);
            }
        }

        void forget() {
            size = 0;
        }
    }
}
