import java.util.NoSuchElementException;

/** Promises 1 to 12: a new object, and shelves. */
public final class ShelfTest {
    public static void main(String[] args) {
        promise1NewObject();
        promise2AddShelf();
        promise3Count();
        promises4To7Queries();
        promise8ShelfFor();
        promise9CountedDay();
        promise10ShelfToCount();
        promises11And12FewestShelves();
        fewestShelvesOfUnequalSizes();
        Check.finish("ShelfTest");
    }

    private static void promise1NewObject() {
        PromiseDepot d = new PromiseDepot();
        Check.due("new shelfCount", d.shelfCount(), 0);
        Check.due("new lotCount", d.lotCount(), 0);
        Check.due("new day", d.day(), 0);
        Check.due("new heapSize", d.heapSize(), 0);
        Check.due("new received", d.received(), 0);
        Check.due("new stored", d.stored(), 0);
        Check.due("new undoCount", d.undoCount(), 0);
        Check.throwing("new denial", NoSuchElementException.class, d::denial);
        Check.throwing("new lineCharacter(0)", IndexOutOfBoundsException.class, () -> d.lineCharacter(0));
    }

    private static void promise2AddShelf() {
        PromiseDepot d = new PromiseDepot();
        int[][] bad = {{-1, 5}, {3, 5}, {0, 0}, {0, 41}, {0, -1}, {Integer.MIN_VALUE, 5}, {1, Integer.MAX_VALUE}};
        for (int[] pair : bad) {
            Check.throwing("addShelf " + pair[0] + " " + pair[1], IllegalArgumentException.class, () -> d.addShelf(pair[0], pair[1]));
        }
        Check.due("shelves after bad calls", d.shelfCount(), 0);
        Check.due("undoCount after bad calls", d.undoCount(), 0);
        for (int i = 0; i < 8; i++) {
            Check.due("addShelf " + i, d.addShelf(i % 3, i == 0 ? 1 : 40), i);
        }
        Check.denied("ninth shelf", d, 1, 8, () -> d.addShelf(0, 5));
        Check.throwing("ninth shelf, bad zone", IllegalArgumentException.class, () -> d.addShelf(3, 5));
        Check.throwing("ninth shelf, bad capacity", IllegalArgumentException.class, () -> d.addShelf(0, 41));
        Check.due("shelves after the ninth", d.shelfCount(), 8);
    }

    private static void promise3Count() {
        PromiseDepot d = new PromiseDepot();
        Check.throwing("count of none", IndexOutOfBoundsException.class, () -> d.count(0));
        d.addShelf(0, 20);
        d.addShelf(1, 20);
        d.receive(0, 3, 0, 1);
        d.receive(0, 3, 0, 1);
        d.pass(4);
        Check.due("count", d.count(0), 2);
        Check.due("count of an empty shelf", d.count(1), 0);
        Check.due("countedDay", d.countedDay(0), 4);
        d.pass(3);
        d.count(0);
        Check.due("countedDay again", d.countedDay(0), 7);
        Check.due("countedDay of the other", d.countedDay(1), 4);
        Check.throwing("count -1", IndexOutOfBoundsException.class, () -> d.count(-1));
        Check.throwing("count 2", IndexOutOfBoundsException.class, () -> d.count(2));
    }

    private static void promises4To7Queries() {
        PromiseDepot d = new PromiseDepot();
        d.addShelf(2, 40);
        d.addShelf(1, 7);
        Check.due("shelfCount", d.shelfCount(), 2);
        Check.due("zoneOf 0", d.zoneOf(0), 2);
        Check.due("zoneOf 1", d.zoneOf(1), 1);
        d.receive(5, 6, 2, 0);
        d.receive(5, 4, 2, 0);
        d.receive(5, 7, 1, 0);
        Check.due("roomOf 0", d.roomOf(0), 30);
        Check.due("roomOf 1", d.roomOf(1), 0);
        Check.due("lotsOn 0", d.lotsOn(0), 2);
        Check.due("lotsOn 1", d.lotsOn(1), 1);
        d.recall(0);
        Check.due("roomOf 0 after a recall", d.roomOf(0), 36);
        Check.due("lotsOn 0 after a recall", d.lotsOn(0), 1);
        for (int shelf : new int[] {-1, 2, 8, Integer.MIN_VALUE, Integer.MAX_VALUE}) {
            Check.throwing("zoneOf " + shelf, IndexOutOfBoundsException.class, () -> d.zoneOf(shelf));
            Check.throwing("roomOf " + shelf, IndexOutOfBoundsException.class, () -> d.roomOf(shelf));
            Check.throwing("lotsOn " + shelf, IndexOutOfBoundsException.class, () -> d.lotsOn(shelf));
            Check.throwing("countedDay " + shelf, IndexOutOfBoundsException.class, () -> d.countedDay(shelf));
        }
    }

    private static void promise8ShelfFor() {
        PromiseDepot d = new PromiseDepot();
        d.addShelf(0, 30);
        d.addShelf(0, 10);
        d.addShelf(1, 5);
        d.addShelf(0, 10);
        d.addShelf(0, 12);
        Check.due("least room, lowest index", d.shelfFor(0, 10), 1);
        Check.due("least room that is enough", d.shelfFor(0, 11), 4);
        Check.due("greatest", d.shelfFor(0, 30), 0);
        Check.due("own zone alone", d.shelfFor(1, 5), 2);
        Check.throwing("no room", NoSuchElementException.class, () -> d.shelfFor(0, 31));
        Check.throwing("no room in zone 1", NoSuchElementException.class, () -> d.shelfFor(1, 6));
        Check.throwing("no shelf of zone 2", NoSuchElementException.class, () -> d.shelfFor(2, 1));
        Check.throwing("zone 3", IllegalArgumentException.class, () -> d.shelfFor(3, 1));
        Check.throwing("zone -1", IllegalArgumentException.class, () -> d.shelfFor(-1, 1));
        Check.throwing("volume 0", IllegalArgumentException.class, () -> d.shelfFor(0, 0));
        Check.throwing("volume 41", IllegalArgumentException.class, () -> d.shelfFor(0, 41));
        d.receive(0, 10, 0, 1);
        Check.due("after a lot has come", d.shelfFor(0, 10), 3);
        Check.throwing("shelfFor is no denial", NoSuchElementException.class, d::denial);
    }

    private static void promise9CountedDay() {
        PromiseDepot d = new PromiseDepot();
        Check.throwing("no such shelf", IndexOutOfBoundsException.class, () -> d.countedDay(0));
        d.addShelf(0, 5);
        Check.throwing("never counted", NoSuchElementException.class, () -> d.countedDay(0));
        d.count(0);
        Check.due("counted on day 0", d.countedDay(0), 0);
        d.pass(99);
        Check.due("kept", d.countedDay(0), 0);
        d.undo();
        d.undo();
        Check.throwing("count undone", NoSuchElementException.class, () -> d.countedDay(0));
    }

    private static void promise10ShelfToCount() {
        PromiseDepot d = new PromiseDepot();
        for (int i = 0; i < 5; i++) {
            d.addShelf(i == 2 || i == 3 ? 1 : i == 4 ? 2 : 0, 10);
        }
        d.receive(0, 1, 2, 1);
        d.receive(0, 1, 2, 1);
        d.receive(0, 10, 1, 1);
        order("none counted: more lots, then the index", d, 4, 2, 0, 1, 3);
        d.count(4);
        d.count(0);
        order("counted today come last, more lots first", d, 2, 1, 3, 4, 0);
        d.pass(1);
        d.count(2);
        d.count(1);
        d.count(3);
        order("earlier days first", d, 4, 0, 2, 1, 3);
        d.pass(1);
        d.count(0);
        order("latest last", d, 4, 2, 1, 3, 0);
        Check.throwing("rank 5", NoSuchElementException.class, () -> d.shelfToCount(5));
        Check.throwing("rank -1", NoSuchElementException.class, () -> d.shelfToCount(-1));
        Check.throwing("no shelves", NoSuchElementException.class, () -> new PromiseDepot().shelfToCount(0));
    }

    private static void order(String what, PromiseDepot d, int... shelves) {
        for (int rank = 0; rank < shelves.length; rank++) {
            Check.due(what + ", rank " + rank, d.shelfToCount(rank), shelves[rank]);
        }
    }

    private static void fewest(String what, PromiseDepot d, int zone, int want) {
        Check.due(what + ", by sets", d.fewestShelves(zone), want);
        Check.due(what + ", by search", d.fewestShelvesBySearch(zone), want);
    }

    private static void promises11And12FewestShelves() {
        PromiseDepot d = new PromiseDepot();
        fewest("no shelves", d, 0, 0);
        for (int zone : new int[] {-1, 3, Integer.MAX_VALUE, Integer.MIN_VALUE}) {
            Check.throwing("fewestShelves " + zone, IllegalArgumentException.class, () -> d.fewestShelves(zone));
            Check.throwing("fewestShelvesBySearch " + zone, IllegalArgumentException.class, () -> d.fewestShelvesBySearch(zone));
        }
        for (int i = 0; i < 4; i++) {
            d.addShelf(0, 10);
        }
        d.addShelf(1, 40);
        fewest("no lots", d, 0, 0);
        for (int volume : new int[] {6, 6, 5, 4, 4, 3, 2}) {
            d.receive(0, volume, 0, volume);
        }
        fewest("30 on three shelves of 10", d, 0, 3);
        fewest("no lots in zone 1", d, 1, 0);
        d.pass(5);
        fewest("expired lots count too", d, 0, 3);
        d.recall(2);
        fewest("25 on three", d, 0, 3);
        d.recall(0);
        fewest("19 on two", d, 0, 2);
        d.receive(0, 40, 1, 5);
        fewest("one lot", d, 1, 1);
    }

    private static void fewestShelvesOfUnequalSizes() {
        PromiseDepot d = new PromiseDepot();
        int[] capacities = {5, 9, 12, 7};
        for (int capacity : capacities) {
            d.addShelf(2, capacity);
        }
        d.receive(0, 5, 2, 1);
        d.receive(0, 7, 2, 1);
        d.receive(0, 9, 2, 1);
        fewest("12 and 9", d, 2, 2);
        d.receive(0, 7, 2, 1);
        d.receive(0, 5, 2, 1);
        fewest("all four", d, 2, 4);
        PromiseDepot f = new PromiseDepot();
        f.addShelf(0, 10);
        f.addShelf(0, 6);
        f.receive(0, 6, 0, 1);
        f.receive(0, 7, 0, 1);
        Check.due("by search alone", f.fewestShelvesBySearch(0), 2);
        Check.due("by sets, the second shelf is smaller", f.fewestShelves(0), 2);
        PromiseDepot g = new PromiseDepot();
        for (int capacity : new int[] {10, 6, 5}) {
            g.addShelf(1, capacity);
        }
        for (int volume : new int[] {7, 6, 4}) {
            g.receive(0, volume, 1, 1);
        }
        fewest("10 holds 6 and 4, but 6 does not hold 7", g, 1, 3);
        PromiseDepot e = new PromiseDepot();
        for (int i = 0; i < 8; i++) {
            e.addShelf(0, 40 - i);
            e.receive(0, 21, 0, 1);
        }
        fewest("one shelf a lot", e, 0, 8);
    }
}
