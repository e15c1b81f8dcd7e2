import java.util.ArrayList;
import java.util.List;

/**
 * What each change changes, looked at through all that can be asked: the lines that change are given
 * here one by one, and no other may. Each change is also undone, saved, restored, and made by a text.
 */
public final class EffectsTest {
    private static final String NONE = "NoSuchElementException";
    private static final String OUTSIDE = "IndexOutOfBoundsException";

    /** Seven changes that can be made after each of the others here, to come back from. */
    private static final Story NOISE = d -> {
        d.pass(40);
        d.addShelf(1, 9);
        d.count(0);
        d.recall(d.receive(5, 3, 1, 1));
        d.compost();
        d.recall(0);
    };

    private interface Change {
        int on(PromiseDepot depot);
    }

    public static void main(String[] args) {
        aNewObject();
        shelvesThatAreAdded();
        countedShelves();
        receivedLots();
        splitLots();
        mixedLots();
        movedLots();
        shippedVolumes();
        recalledLots();
        compostedLots();
        daysThatPass();
        textsOfSeveralCommands();
        whatUndoBringsBack();
        whatARestoreBringsBack();
        whatChangesNothing();
        Check.finish("EffectsTest");
    }

    /** The lines that change must be these, in any order, and the change be undone, saved, restored and made by the text too. */
    private static void effect(String text, Story before, int answer, Change change, String... due) {
        Story changed = before.then(change::on);
        String old = Looks.stateOf(before);
        String now = Looks.stateOf(changed);
        Check.due(text + ", answer", change.on(before.depot()), answer);
        Check.due(text + ", what changes", sorted(Looks.changes(old, now)), sorted(List.of(due)));
        comesBack(text, before, old, change::on);
        Story saved = changed.then(PromiseDepot::saveSnapshot).then(NOISE);
        Check.due(text + ", saved afterwards", Looks.difference(Looks.stateOf(saved.then(PromiseDepot::restoreSnapshot)), now), "none");
        Story made = d -> Check.run(d, text);
        Check.due(text + ", made by a text", Looks.difference(Looks.stateOf(before.then(made)), now), "none");
        comesBack(text + ", made by a text", before, old, made);
    }

    /** By undo, by undo after others, and by a snapshot that was saved before. */
    private static void comesBack(String what, Story before, String old, Story change) {
        Check.due(what + ", undone", Looks.difference(Looks.stateOf(before.then(change).then(PromiseDepot::undo)), old), "none");
        Story others = before.then(change).then(NOISE);
        for (int i = 0; i < 8; i++) {
            others = others.then(PromiseDepot::undo);
        }
        Check.due(what + ", undone after others", Looks.difference(Looks.stateOf(others), old), "none");
        Story saved = before.then(PromiseDepot::saveSnapshot).then(change).then(NOISE).then(PromiseDepot::restoreSnapshot);
        Check.due(what + ", saved before", Looks.difference(Looks.stateOf(saved), old), "none");
        Check.due(what + ", changes after the restore", saved.depot().undoCount(), 0);
    }

    private static List<String> sorted(List<String> lines) {
        List<String> sorted = new ArrayList<>(lines);
        sorted.sort(null);
        return sorted;
    }

    /** The lines that change with a lot that comes into being on a shelf, and then the others. */
    private static String[] withLot(int lot, String line, int shelf, int volume, int expiry, int parents, String... others) {
        String[] own = {
            "lotCount: " + lot + " -> " + (lot + 1), "isOnShelf " + lot + ": " + NONE + " -> true", "shelfOf " + lot + ": " + NONE + " -> " + shelf,
            "volumeOf " + lot + ": " + NONE + " -> " + volume, "expiryOf " + lot + ": " + NONE + " -> " + expiry,
            "isExpired " + lot + ": " + NONE + " -> false", "parentCount " + lot + ": " + NONE + " -> " + parents,
            "descendants " + lot + ": " + NONE + " -> 0", "descendantsByTable " + lot + ": " + NONE + " -> 0",
            "recallSize " + lot + ": " + NONE + " -> 1", "line of lot " + lot + ": " + NONE + " -> " + line,
        };
        return joined(own, others);
    }

    /** The lines that change with a lot that leaves its shelf, and then the others. */
    private static String[] withoutLot(int lot, int shelf, String... others) {
        String[] own = {"isOnShelf " + lot + ": true -> false", "shelfOf " + lot + ": " + shelf + " -> " + NONE};
        return joined(own, others);
    }

    private static String[] joined(String[] some, String[] others) {
        List<String> all = new ArrayList<>(List.of(some));
        all.addAll(List.of(others));
        return all.toArray(new String[0]);
    }

    private static String none(String name) {
        return name + ": " + NONE + "\n";
    }

    private static void aNewObject() {
        StringBuilder due = new StringBuilder("shelfCount: 0\n");
        for (int shelf = 0; shelf < 9; shelf++) {
            for (String name : new String[] {"zoneOf ", "roomOf ", "lotsOn ", "countedDay "}) {
                due.append(name).append(shelf).append(": ").append(OUTSIDE).append('\n');
            }
            due.append(none("shelfToCount " + shelf));
        }
        for (int zone = 0; zone < 3; zone++) {
            due.append("fewestShelves ").append(zone).append(": 0\nfewestShelvesBySearch ").append(zone).append(": 0\n");
        }
        for (String name : new String[] {"lotCount", "day", "received", "stored", "heaped", "shipped", "composted", "heapSize"}) {
            due.append(name).append(": 0\n");
        }
        due.append(none("nextCompost")).append(none("nextCompostByScan"));
        due.append("meanVolume: ArithmeticException\nexpiredShare: ArithmeticException\n");
        for (int kind = 0; kind < 6; kind++) {
            due.append("available ").append(kind).append(": 0\n").append(none("firstToShip " + kind));
        }
        for (int rank = 0; rank < 9; rank++) {
            due.append(none("lotByExpiry " + rank));
        }
        for (int zone = 0; zone < 3; zone++) {
            due.append("shelfFor ").append(zone).append(": 1-40:").append(NONE).append('\n');
        }
        for (int lot = 0; lot < 21; lot++) {
            for (String name : new String[] {"isOnShelf ", "shelfOf ", "volumeOf ", "expiryOf ", "isExpired ", "parentCount ", "descendants ",
                "descendantsByTable ", "recallSize "}) {
                due.append(none(name + lot));
            }
        }
        for (int lot = 0; lot < 21; lot++) {
            due.append("descend from ").append(lot).append(": none\n");
        }
        for (int lot = 0; lot < 21; lot++) {
            due.append(none("line of lot " + lot));
        }
        Check.due("a new object", Looks.difference(Looks.stateOf(Stories.NEW), due.toString()), "none");
        Check.due("its memory", Looks.memoryOf(new PromiseDepot()), "denial " + NONE + " " + NONE + " " + NONE + ", fault " + NONE);
        Check.due("its changes", new PromiseDepot().undoCount(), 0);
        Check.throwing("its line", IndexOutOfBoundsException.class, () -> new PromiseDepot().lineCharacter(0));
        Check.throwing("its snapshot", IllegalStateException.class, () -> new PromiseDepot().restoreSnapshot());
        Check.due("its buffer", new PromiseDepot().feed('w'), 1);
    }

    private static void shelvesThatAreAdded() {
        effect("shelf 2 30", Stories.SEVERAL, 3, d -> d.addShelf(2, 30), "shelfCount: 3 -> 4", "zoneOf 3: " + OUTSIDE + " -> 2",
            "roomOf 3: " + OUTSIDE + " -> 30", "lotsOn 3: " + OUTSIDE + " -> 0", "countedDay 3: " + OUTSIDE + " -> " + NONE, "shelfToCount 2: 1 -> 3",
            "shelfToCount 3: " + NONE + " -> 1", "shelfFor 2: 1-40:" + NONE + " -> 1-30:3 31-40:" + NONE);
        effect("shelf 0 12", Stories.SEVERAL, 3, d -> d.addShelf(0, 12), "shelfCount: 3 -> 4", "zoneOf 3: " + OUTSIDE + " -> 0",
            "roomOf 3: " + OUTSIDE + " -> 12", "lotsOn 3: " + OUTSIDE + " -> 0", "countedDay 3: " + OUTSIDE + " -> " + NONE, "shelfToCount 2: 1 -> 3",
            "shelfToCount 3: " + NONE + " -> 1", "shelfFor 0: 1-4:2 5-13:0 14-40:" + NONE + " -> 1-4:2 5-12:3 13-13:0 14-40:" + NONE);
        Story two = d -> {
            d.addShelf(1, 6);
            d.addShelf(1, 5);
            d.receive(0, 6, 1, 0);
            d.receive(0, 5, 1, 0);
            d.pass(1);
            d.count(0);
            d.count(1);
        };
        effect("shelf 1 11", two, 2, d -> d.addShelf(1, 11), "shelfCount: 2 -> 3", "zoneOf 2: " + OUTSIDE + " -> 1", "roomOf 2: " + OUTSIDE + " -> 11",
            "lotsOn 2: " + OUTSIDE + " -> 0", "countedDay 2: " + OUTSIDE + " -> " + NONE, "shelfToCount 0: 0 -> 2", "shelfToCount 1: 1 -> 0",
            "shelfToCount 2: " + NONE + " -> 1", "fewestShelves 1: 2 -> 1", "fewestShelvesBySearch 1: 2 -> 1",
            "shelfFor 1: 1-40:" + NONE + " -> 1-11:2 12-40:" + NONE);
    }

    private static void countedShelves() {
        effect("count 1", Stories.SEVERAL, 1, d -> d.count(1), "countedDay 1: 0 -> 1");
        effect("count 0", Stories.SEVERAL, 1, d -> d.count(0), "countedDay 0: " + NONE + " -> 1", "shelfToCount 0: 0 -> 2", "shelfToCount 1: 2 -> 1",
            "shelfToCount 2: 1 -> 0");
        effect("count 2", Stories.SEVERAL, 1, d -> d.count(2), "countedDay 2: " + NONE + " -> 1", "shelfToCount 1: 2 -> 1", "shelfToCount 2: 1 -> 2");
        effect("count 0", Stories.SEVERAL.then(d -> d.count(0)), 1, d -> d.count(0));
    }

    private static void receivedLots() {
        effect("receive 3 4 0+9", Stories.SEVERAL, 7, d -> d.receive(3, 4, 0, 9), withLot(7, "7k3z0v4e10@2", 2, 4, 10, 0,
            "roomOf 2: 4 -> 0", "lotsOn 2: 1 -> 2", "shelfToCount 0: 0 -> 2", "shelfToCount 1: 2 -> 0", "received: 24 -> 28", "stored: 16 -> 20",
            "meanVolume: 5.333333333333333 -> 5.0", "expiredShare: 0.33333334 -> 0.25", "available 3: 0 -> 4", "firstToShip 3: " + NONE + " -> 7",
            "lotByExpiry 3: " + NONE + " -> 7", "shelfFor 0: 1-4:2 5-13:0 14-40:" + NONE + " -> 1-13:0 14-40:" + NONE));
        effect("receive 0 13 0+1", Stories.SEVERAL, 7, d -> d.receive(0, 13, 0, 1), withLot(7, "7k0z0v13e2@0", 0, 13, 2, 0,
            "roomOf 0: 13 -> 0", "lotsOn 0: 1 -> 2", "fewestShelves 0: 1 -> 2", "fewestShelvesBySearch 0: 1 -> 2", "received: 24 -> 37",
            "stored: 16 -> 29", "meanVolume: 5.333333333333333 -> 7.25", "expiredShare: 0.33333334 -> 0.25", "available 0: 12 -> 25",
            "lotByExpiry 2: 0 -> 7", "lotByExpiry 3: " + NONE + " -> 0", "shelfFor 0: 1-4:2 5-13:0 14-40:" + NONE + " -> 1-4:2 5-40:" + NONE));
        effect("receive 0 1 1+0", Stories.SEVERAL, 7, d -> d.receive(0, 1, 1, 0), withLot(7, "7k0z1v1e1@1", 1, 1, 1, 0,
            "roomOf 1: 6 -> 5", "lotsOn 1: 1 -> 2", "received: 24 -> 25", "stored: 16 -> 17", "meanVolume: 5.333333333333333 -> 4.25",
            "expiredShare: 0.33333334 -> 0.25", "available 0: 12 -> 13", "firstToShip 0: 4 -> 7", "lotByExpiry 1: 4 -> 7", "lotByExpiry 2: 0 -> 4",
            "lotByExpiry 3: " + NONE + " -> 0", "shelfFor 1: 1-6:1 7-40:" + NONE + " -> 1-5:1 6-40:" + NONE));
    }

    private static void splitLots() {
        effect("split 4 3", Stories.SEVERAL, 7, d -> d.split(4, 3), withLot(7, "7k0z0v3e2@0<4", 0, 3, 2, 1,
            "lotsOn 0: 1 -> 2", "meanVolume: 5.333333333333333 -> 4.0", "expiredShare: 0.33333334 -> 0.25", "lotByExpiry 2: 0 -> 7",
            "lotByExpiry 3: " + NONE + " -> 0", "volumeOf 4: 7 -> 4", "descendants 0: 2 -> 3", "descendantsByTable 0: 2 -> 3", "recallSize 0: 2 -> 3",
            "descendants 1: 1 -> 2", "descendantsByTable 1: 1 -> 2", "recallSize 1: 1 -> 2", "descendants 3: 1 -> 2", "descendantsByTable 3: 1 -> 2",
            "recallSize 3: 1 -> 2", "descendants 4: 0 -> 1", "descendantsByTable 4: 0 -> 1", "recallSize 4: 1 -> 2", "descend from 0: 3 4 -> 3 4 7",
            "descend from 1: 4 -> 4 7", "descend from 3: 4 -> 4 7", "descend from 4: none -> 7", "line of lot 4: 4k0z0v7e2@0<1<3 -> 4k0z0v4e2@0<1<3"));
        effect("split 0 4", Stories.SEVERAL, 7, d -> d.split(0, 4), withLot(7, "7k0z0v4e5@2<0", 2, 4, 5, 1,
            "lotsOn 2: 1 -> 2", "shelfToCount 0: 0 -> 2", "shelfToCount 1: 2 -> 0", "meanVolume: 5.333333333333333 -> 4.0",
            "expiredShare: 0.33333334 -> 0.25", "lotByExpiry 3: " + NONE + " -> 7", "volumeOf 0: 5 -> 1", "descendants 0: 2 -> 3",
            "descendantsByTable 0: 2 -> 3", "recallSize 0: 2 -> 3", "descend from 0: 3 4 -> 3 4 7", "line of lot 0: 0k0z0v5e5@2 -> 0k0z0v1e5@2"));
    }

    /** What changes with both mixtures of the lots 0 and 4, but for the parents of the new lot. */
    private static String[] mixture(String line) {
        String[] four = withoutLot(4, 0, "volumeOf 4: 7 -> 0", "descendants 4: 0 -> 1", "descendantsByTable 4: 0 -> 1",
            "line of lot 4: 4k0z0v7e2@0<1<3 -> 4k0z0v0e2-<1<3");
        String[] zero = withoutLot(0, 2, "volumeOf 0: 5 -> 0", "descendants 0: 2 -> 3", "descendantsByTable 0: 2 -> 3", "recallSize 0: 2 -> 1",
            "line of lot 0: 0k0z0v5e5@2 -> 0k0z0v0e5-");
        String[] others = {"roomOf 0: 13 -> 8", "roomOf 2: 4 -> 9", "lotsOn 2: 1 -> 0", "meanVolume: 5.333333333333333 -> 8.0",
            "expiredShare: 0.33333334 -> 0.5", "firstToShip 0: 4 -> 7", "lotByExpiry 1: 4 -> 7", "lotByExpiry 2: 0 -> " + NONE,
            "shelfFor 0: 1-4:2 5-13:0 14-40:" + NONE + " -> 1-8:0 9-9:2 10-40:" + NONE, "descendants 1: 1 -> 2", "descendantsByTable 1: 1 -> 2",
            "descendants 3: 1 -> 2", "descendantsByTable 3: 1 -> 2", "descend from 0: 3 4 -> 3 4 7", "descend from 1: 4 -> 4 7",
            "descend from 3: 4 -> 4 7", "descend from 4: none -> 7"};
        return withLot(7, line, 0, 12, 2, 2, joined(joined(four, zero), others));
    }

    private static void mixedLots() {
        effect("mix 4&0", Stories.SEVERAL, 7, d -> d.mix(4, 0), mixture("7k0z0v12e2@0<4<0"));
        effect("mix 0&4", Stories.SEVERAL, 7, d -> d.mix(0, 4), mixture("7k0z0v12e2@0<0<4"));
    }

    private static void movedLots() {
        effect("move 0>0", Stories.SEVERAL, 8, d -> d.move(0, 0), "roomOf 0: 13 -> 8", "roomOf 2: 4 -> 9", "lotsOn 0: 1 -> 2", "lotsOn 2: 1 -> 0",
            "shelfFor 0: 1-4:2 5-13:0 14-40:" + NONE + " -> 1-8:0 9-9:2 10-40:" + NONE, "shelfOf 0: 2 -> 0",
            "line of lot 0: 0k0z0v5e5@2 -> 0k0z0v5e5@0");
        effect("move 0>2", Stories.SEVERAL, 4, d -> d.move(0, 2));
        Story smaller = Stories.SEVERAL.then(d -> d.ship(0, 3));
        effect("move 4>2", smaller, 0, d -> d.move(4, 2), "roomOf 0: 16 -> 20", "roomOf 2: 4 -> 0", "lotsOn 0: 1 -> 0", "lotsOn 2: 1 -> 2",
            "shelfToCount 0: 0 -> 2", "shelfToCount 1: 2 -> 0", "shelfFor 0: 1-4:2 5-16:0 17-40:" + NONE + " -> 1-20:0 21-40:" + NONE,
            "shelfOf 4: 0 -> 2", "line of lot 4: 4k0z0v4e2@0<1<3 -> 4k0z0v4e2@2<1<3");
    }

    private static void shippedVolumes() {
        effect("ship 0 1", Stories.SEVERAL, 1, d -> d.ship(0, 1), "roomOf 0: 13 -> 14", "stored: 16 -> 15", "shipped: 3 -> 4",
            "meanVolume: 5.333333333333333 -> 5.0", "available 0: 12 -> 11", "volumeOf 4: 7 -> 6",
            "shelfFor 0: 1-4:2 5-13:0 14-40:" + NONE + " -> 1-4:2 5-14:0 15-40:" + NONE, "line of lot 4: 4k0z0v7e2@0<1<3 -> 4k0z0v6e2@0<1<3");
        String[] seven = withoutLot(4, 0, "roomOf 0: 13 -> 20", "lotsOn 0: 1 -> 0", "shelfToCount 0: 0 -> 2", "shelfToCount 1: 2 -> 0",
            "firstToShip 0: 4 -> 0", "lotByExpiry 1: 4 -> 0", "lotByExpiry 2: 0 -> " + NONE, "expiredShare: 0.33333334 -> 0.5", "volumeOf 4: 7 -> 0",
            "recallSize 0: 2 -> 1", "recallSize 1: 1 -> 0", "recallSize 3: 1 -> 0", "recallSize 4: 1 -> 0",
            "line of lot 4: 4k0z0v7e2@0<1<3 -> 4k0z0v0e2-<1<3");
        String[] exactly = {"stored: 16 -> 9", "shipped: 3 -> 10", "meanVolume: 5.333333333333333 -> 4.5", "available 0: 12 -> 5",
            "shelfFor 0: 1-4:2 5-13:0 14-40:" + NONE + " -> 1-4:2 5-20:0 21-40:" + NONE};
        effect("ship 0 7", Stories.SEVERAL, 1, d -> d.ship(0, 7), joined(seven, exactly));
        String[] andOne = {"stored: 16 -> 8", "shipped: 3 -> 11", "meanVolume: 5.333333333333333 -> 4.0", "available 0: 12 -> 4", "roomOf 2: 4 -> 5",
            "volumeOf 0: 5 -> 4", "shelfFor 0: 1-4:2 5-13:0 14-40:" + NONE + " -> 1-5:2 6-20:0 21-40:" + NONE,
            "line of lot 0: 0k0z0v5e5@2 -> 0k0z0v4e5@2"};
        effect("ship 0 8", Stories.SEVERAL, 2, d -> d.ship(0, 8), joined(seven, andOne));
        String[] all = withoutLot(4, 0, withoutLot(0, 2, "roomOf 0: 13 -> 20", "roomOf 2: 4 -> 9", "lotsOn 0: 1 -> 0", "lotsOn 2: 1 -> 0",
            "fewestShelves 0: 1 -> 0", "fewestShelvesBySearch 0: 1 -> 0", "stored: 16 -> 4", "shipped: 3 -> 15", "meanVolume: 5.333333333333333 -> 4.0",
            "expiredShare: 0.33333334 -> 1.0", "available 0: 12 -> 0", "firstToShip 0: 4 -> " + NONE, "lotByExpiry 1: 4 -> " + NONE,
            "lotByExpiry 2: 0 -> " + NONE, "shelfFor 0: 1-4:2 5-13:0 14-40:" + NONE + " -> 1-9:2 10-20:0 21-40:" + NONE, "volumeOf 0: 5 -> 0",
            "volumeOf 4: 7 -> 0", "recallSize 0: 2 -> 0", "recallSize 1: 1 -> 0", "recallSize 3: 1 -> 0", "recallSize 4: 1 -> 0",
            "line of lot 0: 0k0z0v5e5@2 -> 0k0z0v0e5-", "line of lot 4: 4k0z0v7e2@0<1<3 -> 4k0z0v0e2-<1<3"));
        effect("ship 0 12", Stories.SEVERAL, 2, d -> d.ship(0, 12), all);
    }

    private static void recalledLots() {
        String[] both = withoutLot(4, 0, withoutLot(0, 2, "roomOf 0: 13 -> 20", "roomOf 2: 4 -> 9", "lotsOn 0: 1 -> 0", "lotsOn 2: 1 -> 0",
            "fewestShelves 0: 1 -> 0", "fewestShelvesBySearch 0: 1 -> 0", "stored: 16 -> 4", "heaped: 2 -> 14", "heapSize: 1 -> 3",
            "nextCompost: 6 -> 4", "nextCompostByScan: 6 -> 4", "meanVolume: 5.333333333333333 -> 4.0", "expiredShare: 0.33333334 -> 1.0",
            "available 0: 12 -> 0", "firstToShip 0: 4 -> " + NONE, "lotByExpiry 1: 4 -> " + NONE, "lotByExpiry 2: 0 -> " + NONE,
            "shelfFor 0: 1-4:2 5-13:0 14-40:" + NONE + " -> 1-9:2 10-20:0 21-40:" + NONE, "recallSize 0: 2 -> 0", "recallSize 1: 1 -> 0",
            "recallSize 3: 1 -> 0", "recallSize 4: 1 -> 0", "line of lot 0: 0k0z0v5e5@2 -> 0k0z0v5e5h",
            "line of lot 4: 4k0z0v7e2@0<1<3 -> 4k0z0v7e2h<1<3"));
        effect("recall 0", Stories.SEVERAL, 2, d -> d.recall(0), both);
        String[] four = withoutLot(4, 0, "roomOf 0: 13 -> 20", "lotsOn 0: 1 -> 0", "shelfToCount 0: 0 -> 2", "shelfToCount 1: 2 -> 0",
            "stored: 16 -> 9", "heaped: 2 -> 9", "heapSize: 1 -> 2", "nextCompost: 6 -> 4", "nextCompostByScan: 6 -> 4",
            "meanVolume: 5.333333333333333 -> 4.5", "expiredShare: 0.33333334 -> 0.5", "available 0: 12 -> 5", "firstToShip 0: 4 -> 0",
            "lotByExpiry 1: 4 -> 0", "lotByExpiry 2: 0 -> " + NONE, "shelfFor 0: 1-4:2 5-13:0 14-40:" + NONE + " -> 1-4:2 5-20:0 21-40:" + NONE,
            "recallSize 0: 2 -> 1", "recallSize 1: 1 -> 0", "recallSize 3: 1 -> 0", "recallSize 4: 1 -> 0",
            "line of lot 4: 4k0z0v7e2@0<1<3 -> 4k0z0v7e2h<1<3");
        for (int lot : new int[] {1, 3, 4}) {
            effect("recall " + lot, Stories.SEVERAL, 1, d -> d.recall(lot), four);
        }
        effect("recall 2", Stories.SEVERAL, 1, d -> d.recall(2), withoutLot(2, 1, "roomOf 1: 6 -> 10", "lotsOn 1: 1 -> 0",
            "fewestShelves 1: 1 -> 0", "fewestShelvesBySearch 1: 1 -> 0", "stored: 16 -> 12", "heaped: 2 -> 6", "heapSize: 1 -> 2",
            "nextCompost: 6 -> 2", "nextCompostByScan: 6 -> 2", "meanVolume: 5.333333333333333 -> 6.0", "expiredShare: 0.33333334 -> 0.0",
            "lotByExpiry 0: 2 -> 4", "lotByExpiry 1: 4 -> 0", "lotByExpiry 2: 0 -> " + NONE,
            "shelfFor 1: 1-6:1 7-40:" + NONE + " -> 1-10:1 11-40:" + NONE, "recallSize 2: 1 -> 0", "line of lot 2: 2k1z1v4e0!@1 -> 2k1z1v4e0!h"));
        effect("recall 5", Stories.SEVERAL, 0, d -> d.recall(5));
        effect("recall 6", Stories.SEVERAL, 0, d -> d.recall(6));
    }

    private static void compostedLots() {
        effect("compost", Stories.SEVERAL, 2, PromiseDepot::compost, "heaped: 2 -> 0", "composted: 3 -> 5", "heapSize: 1 -> 0",
            "nextCompost: 6 -> " + NONE, "nextCompostByScan: 6 -> " + NONE, "volumeOf 6: 2 -> 0", "line of lot 6: 6k2z1v2e10h -> 6k2z1v0e10-");
        effect("compost", Stories.SEVERAL.then(d -> d.recall(0)), 7, PromiseDepot::compost, "heaped: 14 -> 7", "composted: 3 -> 10",
            "heapSize: 3 -> 2", "nextCompost: 4 -> 0", "nextCompostByScan: 4 -> 0", "volumeOf 4: 7 -> 0",
            "line of lot 4: 4k0z0v7e2h<1<3 -> 4k0z0v0e2-<1<3");
    }

    private static void daysThatPass() {
        effect("wait 1", Stories.SEVERAL, 0, d -> d.pass(1), "day: 1 -> 2");
        String[] third = {"day: 1 -> 3", "expiredShare: 0.33333334 -> 0.6666667", "available 0: 12 -> 5", "firstToShip 0: 4 -> 0",
            "isExpired 1: false -> true", "isExpired 4: false -> true", "line of lot 1: 1k0z0v0e2- -> 1k0z0v0e2!-",
            "line of lot 4: 4k0z0v7e2@0<1<3 -> 4k0z0v7e2!@0<1<3"};
        effect("wait 2", Stories.SEVERAL, 1, d -> d.pass(2), third);
        effect("wait 99", Stories.SEVERAL, 2, d -> d.pass(99), "day: 1 -> 100", "expiredShare: 0.33333334 -> 1.0", "available 0: 12 -> 0",
            "firstToShip 0: 4 -> " + NONE, "isExpired 0: false -> true", "isExpired 1: false -> true", "isExpired 3: false -> true",
            "isExpired 4: false -> true", "isExpired 5: false -> true", "isExpired 6: false -> true", "line of lot 0: 0k0z0v5e5@2 -> 0k0z0v5e5!@2",
            "line of lot 1: 1k0z0v0e2- -> 1k0z0v0e2!-", "line of lot 3: 3k0z0v0e5-<0 -> 3k0z0v0e5!-<0",
            "line of lot 4: 4k0z0v7e2@0<1<3 -> 4k0z0v7e2!@0<1<3", "line of lot 5: 5k2z1v0e10- -> 5k2z1v0e10!-",
            "line of lot 6: 6k2z1v2e10h -> 6k2z1v2e10!h");
    }

    private static void textsOfSeveralCommands() {
        String text = "shelf 2 9;count 2;wait 1;ship 0 7;recall 2;compost;wait 2";
        String[] due = withoutLot(4, 0, withoutLot(2, 1, "shelfCount: 3 -> 4", "zoneOf 3: " + OUTSIDE + " -> 2", "roomOf 3: " + OUTSIDE + " -> 9",
            "lotsOn 3: " + OUTSIDE + " -> 0", "countedDay 3: " + OUTSIDE + " -> " + NONE, "countedDay 2: " + NONE + " -> 1",
            "shelfToCount 1: 2 -> 3", "shelfToCount 3: " + NONE + " -> 2", "roomOf 0: 13 -> 20", "lotsOn 0: 1 -> 0",
            "roomOf 1: 6 -> 10", "lotsOn 1: 1 -> 0", "fewestShelves 1: 1 -> 0", "fewestShelvesBySearch 1: 1 -> 0", "day: 1 -> 4", "stored: 16 -> 5",
            "shipped: 3 -> 10", "composted: 3 -> 7", "meanVolume: 5.333333333333333 -> 5.0", "expiredShare: 0.33333334 -> 0.0",
            "available 0: 12 -> 5", "firstToShip 0: 4 -> 0", "lotByExpiry 0: 2 -> 0", "lotByExpiry 1: 4 -> " + NONE, "lotByExpiry 2: 0 -> " + NONE,
            "shelfFor 0: 1-4:2 5-13:0 14-40:" + NONE + " -> 1-4:2 5-20:0 21-40:" + NONE, "shelfFor 1: 1-6:1 7-40:" + NONE + " -> 1-10:1 11-40:" + NONE,
            "shelfFor 2: 1-40:" + NONE + " -> 1-9:3 10-40:" + NONE, "volumeOf 4: 7 -> 0", "volumeOf 2: 4 -> 0", "recallSize 0: 2 -> 1",
            "recallSize 1: 1 -> 0", "recallSize 2: 1 -> 0", "recallSize 3: 1 -> 0", "recallSize 4: 1 -> 0", "isExpired 1: false -> true",
            "isExpired 4: false -> true", "line of lot 1: 1k0z0v0e2- -> 1k0z0v0e2!-", "line of lot 2: 2k1z1v4e0!@1 -> 2k1z1v0e0!-",
            "line of lot 4: 4k0z0v7e2@0<1<3 -> 4k0z0v0e2!-<1<3"));
        effect(text, Stories.SEVERAL, 7, d -> Check.run(d, text), due);
    }

    private static void whatUndoBringsBack() {
        String before = Looks.stateOf(Stories.SEVERAL);
        Story undone = Stories.SEVERAL.then(PromiseDepot::undo);
        String[] due = {"heaped: 2 -> 5", "composted: 3 -> 0", "heapSize: 1 -> 2", "nextCompost: 6 -> 5", "nextCompostByScan: 6 -> 5",
            "volumeOf 5: 0 -> 3", "line of lot 5: 5k2z1v0e10- -> 5k2z1v3e10h"};
        Check.due("undo, answer", Stories.SEVERAL.depot().undo(), 7);
        Check.due("undo of compost", sorted(Looks.changes(before, Looks.stateOf(undone))), sorted(List.of(due)));
        Story twice = undone.then(PromiseDepot::undo);
        String[] more = {"isOnShelf 6: false -> true", "shelfOf 6: " + NONE + " -> 1", "roomOf 1: 6 -> 4", "lotsOn 1: 1 -> 2", "stored: 16 -> 18",
            "heaped: 5 -> 3", "heapSize: 2 -> 1", "meanVolume: 5.333333333333333 -> 4.5", "expiredShare: 0.33333334 -> 0.25",
            "available 2: 0 -> 2", "firstToShip 2: " + NONE + " -> 6", "lotByExpiry 3: " + NONE + " -> 6", "recallSize 6: 0 -> 1",
            "shelfFor 1: 1-6:1 7-40:" + NONE + " -> 1-4:1 5-40:" + NONE, "line of lot 6: 6k2z1v2e10h -> 6k2z1v2e10@1"};
        Check.due("undo of recall", sorted(Looks.changes(Looks.stateOf(undone), Looks.stateOf(twice))), sorted(List.of(more)));
    }

    private static void whatARestoreBringsBack() {
        Story first = d -> {
            d.addShelf(0, 20);
            d.addShelf(1, 10);
            d.addShelf(0, 9);
            d.receive(0, 9, 0, 5);
            d.receive(0, 6, 0, 2);
            d.receive(1, 4, 1, 0);
        };
        Story restored = Stories.SEVERAL.then(PromiseDepot::restoreSnapshot);
        Check.due("as it was saved", Looks.difference(Looks.stateOf(restored), Looks.stateOf(first)), "none");
        Check.due("lots", Stories.SEVERAL.depot().restoreSnapshot(), 3);
    }

    private static void whatChangesNothing() {
        Story[] calls = {d -> d.feed('x'), d -> d.writeLot(0), PromiseDepot::saveSnapshot, PromiseDepot::undoCount,
            d -> Check.thrownBy(d::execute), d -> Check.thrownBy(() -> Check.run(d, "wait 9;count 0;compost;compost"))};
        String before = Looks.stateOf(Stories.SEVERAL);
        for (int i = 0; i < calls.length; i++) {
            Check.due("call " + i, Looks.changes(before, Looks.stateOf(Stories.SEVERAL.then(calls[i]))), List.of());
        }
    }
}
