import java.util.NoSuchElementException;

/**
 * Promises 1 to 57: each parameter at both ends of its range, one beyond them, and far beyond. What is
 * beyond throws what the promise lists, is no denial, and changes nothing.
 */
public final class RangeTest {
    private static final Class<IllegalArgumentException> ILLEGAL = IllegalArgumentException.class;
    private static final Class<IndexOutOfBoundsException> INDEX = IndexOutOfBoundsException.class;
    private static final Class<NoSuchElementException> NONE = NoSuchElementException.class;

    private interface Call {
        Object on(PromiseDepot depot, int value);
    }

    public static void main(String[] args) {
        shelvesToAdd();
        indexesOfShelves();
        ranksAndZones();
        lotsToReceive();
        lotsToSplitMixAndMove();
        volumesToShip();
        numbersOfLots();
        numbersOfTwoLots();
        kinds();
        ranksOfLots();
        daysToPass();
        charactersToFeed();
        indexesOfTheLine();
        Check.finish("RangeTest");
    }

    private static int[] beyond(int least, int greatest) {
        return new int[] {least - 1, greatest + 1, Integer.MIN_VALUE, Integer.MAX_VALUE};
    }

    private static void refused(String name, Story story, Class<? extends RuntimeException> due, int least, int greatest, Call call) {
        for (int value : beyond(least, greatest)) {
            Refusal.thrown(name + " with " + value, story, due, d -> call.on(d, value));
        }
    }

    private static void answered(String name, Story story, int value, Object due, Call call) {
        PromiseDepot depot = story.depot();
        Check.due(name + " with " + value + " throws", Check.thrownBy(() -> call.on(story.depot(), value)), "nothing");
        Check.due(name + " with " + value, call.on(depot, value), due);
    }

    private static void shelvesToAdd() {
        answered("addShelf, zone", Stories.USED, 0, 3, (d, zone) -> d.addShelf(zone, 5));
        answered("addShelf, zone", Stories.USED, 2, 3, (d, zone) -> d.addShelf(zone, 5));
        answered("addShelf, capacity", Stories.USED, 1, 3, (d, capacity) -> d.addShelf(1, capacity));
        answered("addShelf, capacity", Stories.USED, 40, 3, (d, capacity) -> d.addShelf(1, capacity));
        refused("addShelf, zone", Stories.USED, ILLEGAL, 0, 2, (d, zone) -> d.addShelf(zone, 5));
        refused("addShelf, capacity", Stories.USED, ILLEGAL, 1, 40, (d, capacity) -> d.addShelf(1, capacity));
        PromiseDepot d = new PromiseDepot();
        d.addShelf(0, 1);
        d.addShelf(2, 40);
        Check.due("least zone", d.zoneOf(0), 0);
        Check.due("least capacity", d.roomOf(0), 1);
        Check.due("greatest zone", d.zoneOf(1), 2);
        Check.due("greatest capacity", d.roomOf(1), 40);
    }

    private static void shelfIndex(String name, Object first, Object last, Object lastOfEight, Call call) {
        answered(name, Stories.USED, 0, first, call);
        answered(name, Stories.USED, 2, last, call);
        answered(name, Stories.FULL, 7, lastOfEight, call);
        refused(name, Stories.USED, INDEX, 0, 2, call);
        refused(name, Stories.FULL, INDEX, 0, 7, call);
        refused(name + ", no shelves", Stories.NEW, INDEX, 0, -1, call);
    }

    private static void indexesOfShelves() {
        shelfIndex("zoneOf", 0, 0, 1, PromiseDepot::zoneOf);
        shelfIndex("roomOf", 13, 4, 12, PromiseDepot::roomOf);
        shelfIndex("lotsOn", 1, 1, 0, PromiseDepot::lotsOn);
        shelfIndex("count", 1, 1, 0, PromiseDepot::count);
        Story counted = Stories.USED.then(d -> d.count(0)).then(d -> d.count(2));
        answered("countedDay", counted, 0, 1, PromiseDepot::countedDay);
        answered("countedDay", counted, 2, 1, PromiseDepot::countedDay);
        refused("countedDay", counted, INDEX, 0, 2, PromiseDepot::countedDay);
        answered("countedDay", Stories.FULL.then(d -> d.count(7)), 7, 0, PromiseDepot::countedDay);
        refused("countedDay", Stories.FULL, INDEX, 0, 7, PromiseDepot::countedDay);
        refused("countedDay, no shelves", Stories.NEW, INDEX, 0, -1, PromiseDepot::countedDay);
    }

    private static void ranksAndZones() {
        answered("shelfToCount", Stories.USED, 0, 0, PromiseDepot::shelfToCount);
        answered("shelfToCount", Stories.USED, 2, 1, PromiseDepot::shelfToCount);
        answered("shelfToCount", Stories.FULL, 7, 7, PromiseDepot::shelfToCount);
        refused("shelfToCount", Stories.USED, NONE, 0, 2, PromiseDepot::shelfToCount);
        refused("shelfToCount", Stories.FULL, NONE, 0, 7, PromiseDepot::shelfToCount);
        refused("shelfToCount, no shelves", Stories.NEW, NONE, 0, -1, PromiseDepot::shelfToCount);
        answered("shelfFor, zone", Stories.USED, 0, 2, (d, zone) -> d.shelfFor(zone, 1));
        answered("shelfFor, zone", Stories.FULL, 2, 2, (d, zone) -> d.shelfFor(zone, 1));
        answered("shelfFor, volume", Stories.FULL, 1, 6, (d, volume) -> d.shelfFor(0, volume));
        answered("shelfFor, volume", Stories.FULL, 40, 0, (d, volume) -> d.shelfFor(0, volume));
        refused("shelfFor, zone", Stories.USED, ILLEGAL, 0, 2, (d, zone) -> d.shelfFor(zone, 1));
        refused("shelfFor, volume", Stories.FULL, ILLEGAL, 1, 40, (d, volume) -> d.shelfFor(0, volume));
        zoneToPack("fewestShelves", PromiseDepot::fewestShelves);
        zoneToPack("fewestShelvesBySearch", PromiseDepot::fewestShelvesBySearch);
    }

    private static void zoneToPack(String name, Call call) {
        Story third = d -> d.addShelf(2, 5);
        answered(name, Stories.USED, 0, 1, call);
        answered(name, Stories.USED, 2, 0, call);
        answered(name, third.then(d -> d.receive(0, 5, 2, 0)), 2, 1, call);
        refused(name, Stories.USED, ILLEGAL, 0, 2, call);
    }

    private static void lotsToReceive() {
        Call kind = (d, value) -> d.receive(value, 4, 0, 5);
        Call volume = (d, value) -> d.receive(0, value, 0, 5);
        Call zone = (d, value) -> d.receive(0, 4, value, 5);
        Call days = (d, value) -> d.receive(0, 4, 0, value);
        Story roomy = Stories.USED.then(d -> d.addShelf(0, 40)).then(d -> d.addShelf(2, 4));
        for (int value : new int[] {0, 5}) {
            answered("receive, kind", roomy, value, 7, kind);
        }
        for (int value : new int[] {1, 40}) {
            answered("receive, volume", roomy, value, 7, volume);
        }
        for (int value : new int[] {0, 2}) {
            answered("receive, zone", roomy, value, 7, zone);
        }
        for (int value : new int[] {0, 99}) {
            answered("receive, days", roomy, value, 7, days);
        }
        refused("receive, kind", roomy, ILLEGAL, 0, 5, kind);
        refused("receive, volume", roomy, ILLEGAL, 1, 40, volume);
        refused("receive, zone", roomy, ILLEGAL, 0, 2, zone);
        refused("receive, days", roomy, ILLEGAL, 0, 99, days);
        theLotsThatCome(roomy.depot());
    }

    private static void theLotsThatCome(PromiseDepot d) {
        d.receive(0, 1, 0, 0);
        Check.due("the least of all", Check.lineOf(d, 7), "7k0z0v1e1@2");
        d.receive(5, 4, 2, 99);
        Check.due("the greatest kind, zone and days", Check.lineOf(d, 8), "8k5z2v4e100@4");
        d.receive(3, 40, 0, 1);
        Check.due("the greatest volume", Check.lineOf(d, 9), "9k3z0v40e2@3");
    }

    private static void lotsToSplitMixAndMove() {
        Story greatest = d -> {
            d.addShelf(0, 40);
            d.receive(0, 40, 0, 5);
        };
        answered("split, volume", greatest, 1, 1, (d, volume) -> d.split(0, volume));
        answered("split, volume", greatest, 39, 1, (d, volume) -> d.split(0, volume));
        Refusal.denied("split, volume 40", greatest, 6, 40, d -> d.split(0, 40));
        refused("split, volume", greatest, ILLEGAL, 1, 40, (d, volume) -> d.split(0, volume));
        refused("split, volume", Stories.USED, ILLEGAL, 1, 40, (d, volume) -> d.split(4, volume));
        answered("move, shelf", Stories.USED, 0, 8, (d, shelf) -> d.move(0, shelf));
        answered("move, shelf", Stories.USED, 2, 4, (d, shelf) -> d.move(0, shelf));
        answered("move, shelf", Stories.FULL, 0, 38, (d, shelf) -> d.move(19, shelf));
        Refusal.denied("move, shelf 7", Stories.FULL, 4, 1, d -> d.move(19, 7));
        refused("move, shelf", Stories.USED, INDEX, 0, 2, (d, shelf) -> d.move(0, shelf));
        refused("move, shelf", Stories.FULL, INDEX, 0, 7, (d, shelf) -> d.move(19, shelf));
        for (Story story : new Story[] {Stories.USED, Stories.FULL}) {
            int last = story.depot().lotCount() - 1;
            refused("split, lot", story, NONE, 0, last, (d, lot) -> d.split(lot, 1));
            refused("mix, first", story, NONE, 0, last, (d, lot) -> d.mix(lot, last));
            refused("mix, second", story, NONE, 0, last, (d, lot) -> d.mix(last, lot));
            refused("move, lot", story, NONE, 0, last, (d, lot) -> d.move(lot, 0));
            refused("recall", story, NONE, 0, last, PromiseDepot::recall);
        }
        answered("split, lot 0", Stories.USED, 0, 7, (d, lot) -> d.split(lot, 1));
        answered("mix, first 0", Stories.USED, 0, 7, (d, lot) -> d.mix(lot, 4));
        answered("mix, second 0", Stories.USED, 0, 7, (d, lot) -> d.mix(4, lot));
        answered("recall, lot 0", Stories.USED, 0, 2, PromiseDepot::recall);
        answered("recall, last lot", Stories.FULL, 19, 1, PromiseDepot::recall);
        Refusal.denied("split, lot 19 of 20", Stories.FULL, 1, 20, d -> d.split(19, 1));
        Refusal.denied("mix, lots 19 and 18 of 20", Stories.FULL, 1, 20, d -> d.mix(19, 18));
    }

    private static void volumesToShip() {
        Story hundred = d -> {
            for (int i = 0; i < 3; i++) {
                d.addShelf(0, 40);
                d.receive(0, 33, 0, i);
                d.receive(5, i + 1, 0, i);
            }
        };
        answered("ship, volume", hundred, 1, 1, (d, volume) -> d.ship(0, volume));
        answered("ship, volume", hundred, 99, 3, (d, volume) -> d.ship(0, volume));
        answered("ship, kind", hundred, 0, 1, (d, kind) -> d.ship(kind, 5));
        answered("ship, kind", hundred, 5, 3, (d, kind) -> d.ship(kind, 5));
        refused("ship, volume", hundred, ILLEGAL, 1, 99, (d, volume) -> d.ship(0, volume));
        refused("ship, kind", hundred, ILLEGAL, 0, 5, (d, kind) -> d.ship(kind, 5));
        refused("ship, volume", Stories.USED, ILLEGAL, 1, 99, (d, volume) -> d.ship(0, volume));
        Story more = hundred.then(d -> d.receive(0, 4, 0, 9));
        Check.due("more than can be shipped at once", more.depot().available(0), 103);
        refused("ship, volume, of 103", more, ILLEGAL, 1, 99, (d, volume) -> d.ship(0, volume));
    }

    private static void lotNumber(String name, Object first, Object lastOfSeven, Object lastOfTwenty, Call call) {
        answered(name, Stories.USED, 0, first, call);
        answered(name, Stories.USED, 6, lastOfSeven, call);
        answered(name, Stories.FULL, 19, lastOfTwenty, call);
        refused(name, Stories.USED, NONE, 0, 6, call);
        refused(name, Stories.FULL, NONE, 0, 19, call);
        refused(name + ", no lots", Stories.NEW, NONE, 0, -1, call);
    }

    private static void numbersOfLots() {
        lotNumber("isOnShelf", true, false, true, PromiseDepot::isOnShelf);
        lotNumber("volumeOf", 5, 2, 2, PromiseDepot::volumeOf);
        lotNumber("expiryOf", 5, 10, 9, PromiseDepot::expiryOf);
        lotNumber("isExpired", false, false, false, PromiseDepot::isExpired);
        lotNumber("parentCount", 0, 0, 0, PromiseDepot::parentCount);
        lotNumber("descendants", 2, 0, 0, PromiseDepot::descendants);
        lotNumber("descendantsByTable", 2, 0, 0, PromiseDepot::descendantsByTable);
        lotNumber("recallSize", 2, 0, 1, PromiseDepot::recallSize);
        lotNumber("writeLot", "0k0z0v5e5@2".length(), "6k2z1v2e10h".length(), "19k1z0v2e9@6".length(), PromiseDepot::writeLot);
        answered("shelfOf", Stories.USED, 0, 2, PromiseDepot::shelfOf);
        answered("shelfOf", Stories.FULL, 19, 6, PromiseDepot::shelfOf);
        refused("shelfOf", Stories.USED, NONE, 0, 6, PromiseDepot::shelfOf);
        refused("shelfOf", Stories.FULL, NONE, 0, 19, PromiseDepot::shelfOf);
        refused("shelfOf, no lots", Stories.NEW, NONE, 0, -1, PromiseDepot::shelfOf);
        Refusal.thrown("shelfOf, on the heap", Stories.USED, NONE, d -> d.shelfOf(6));
        Refusal.thrown("shelfOf, mixed", Stories.USED, NONE, d -> d.shelfOf(1));
        Refusal.thrown("shelfOf, composted", Stories.USED, NONE, d -> d.shelfOf(5));
        Refusal.thrown("shelfOf, shipped", Stories.FULL, NONE, d -> d.shelfOf(0));
    }

    private static void numbersOfTwoLots() {
        answered("descendsFrom, lot", Stories.USED, 4, true, (d, lot) -> d.descendsFrom(lot, 0));
        answered("descendsFrom, lot", Stories.USED, 0, false, (d, lot) -> d.descendsFrom(lot, 0));
        answered("descendsFrom, lot", Stories.USED, 6, false, (d, lot) -> d.descendsFrom(lot, 0));
        answered("descendsFrom, ancestor", Stories.USED, 0, true, (d, lot) -> d.descendsFrom(4, lot));
        answered("descendsFrom, ancestor", Stories.USED, 6, false, (d, lot) -> d.descendsFrom(4, lot));
        answered("descendsFrom, both", Stories.FULL, 19, false, (d, lot) -> d.descendsFrom(lot, lot));
        refused("descendsFrom, lot", Stories.USED, NONE, 0, 6, (d, lot) -> d.descendsFrom(lot, 0));
        refused("descendsFrom, ancestor", Stories.USED, NONE, 0, 6, (d, lot) -> d.descendsFrom(4, lot));
        refused("descendsFrom, both", Stories.FULL, NONE, 0, 19, (d, lot) -> d.descendsFrom(lot, lot));
    }

    private static void kinds() {
        Story ends = d -> {
            d.addShelf(0, 40);
            d.receive(5, 7, 0, 1);
            d.receive(0, 8, 0, 1);
        };
        answered("available", ends, 0, 8, PromiseDepot::available);
        answered("available", ends, 5, 7, PromiseDepot::available);
        answered("available", ends, 4, 0, PromiseDepot::available);
        answered("firstToShip", ends, 0, 1, PromiseDepot::firstToShip);
        answered("firstToShip", ends, 5, 0, PromiseDepot::firstToShip);
        refused("available", Stories.USED, ILLEGAL, 0, 5, PromiseDepot::available);
        refused("firstToShip", Stories.USED, ILLEGAL, 0, 5, PromiseDepot::firstToShip);
        Refusal.thrown("firstToShip, expired", Stories.USED, NONE, d -> d.firstToShip(1));
        Refusal.thrown("firstToShip, on the heap", Stories.USED, NONE, d -> d.firstToShip(2));
        Refusal.thrown("firstToShip, no such lot ever", Stories.USED, NONE, d -> d.firstToShip(3));
    }

    private static void ranksOfLots() {
        answered("lotByExpiry", Stories.USED, 0, 2, PromiseDepot::lotByExpiry);
        answered("lotByExpiry", Stories.USED, 2, 0, PromiseDepot::lotByExpiry);
        answered("lotByExpiry", Stories.FULL, 0, 12, PromiseDepot::lotByExpiry);
        answered("lotByExpiry", Stories.FULL, 7, 19, PromiseDepot::lotByExpiry);
        refused("lotByExpiry", Stories.USED, NONE, 0, 2, PromiseDepot::lotByExpiry);
        refused("lotByExpiry", Stories.FULL, NONE, 0, 7, PromiseDepot::lotByExpiry);
        refused("lotByExpiry, no lots", Stories.NEW, NONE, 0, -1, PromiseDepot::lotByExpiry);
    }

    private static void daysToPass() {
        answered("pass", Stories.USED, 1, 0, PromiseDepot::pass);
        answered("pass", Stories.USED, 99, 2, PromiseDepot::pass);
        refused("pass", Stories.USED, ILLEGAL, 1, 99, PromiseDepot::pass);
        PromiseDepot d = Stories.USED.depot();
        d.pass(1);
        Check.due("one day more", d.day(), 2);
        d.pass(99);
        Check.due("99 days more", d.day(), 101);
    }

    private static void charactersToFeed() {
        for (int character : new int[] {0, 127, 128, 255, 256, 65535}) {
            answered("feed, the first", Stories.NEW, character, 1, (d, value) -> d.feed((char) value));
            answered("feed, the seventh", Stories.USED, character, 7, (d, value) -> d.feed((char) value));
        }
    }

    private static void indexesOfTheLine() {
        answered("lineCharacter", Stories.USED, 0, '4', PromiseDepot::lineCharacter);
        answered("lineCharacter", Stories.USED, 14, '3', PromiseDepot::lineCharacter);
        refused("lineCharacter", Stories.USED, INDEX, 0, 14, PromiseDepot::lineCharacter);
        refused("lineCharacter, no line", Stories.SEVERAL, INDEX, 0, -1, PromiseDepot::lineCharacter);
        Story shorter = Stories.USED.then(d -> d.writeLot(0));
        answered("lineCharacter, shorter line", shorter, 10, '2', PromiseDepot::lineCharacter);
        refused("lineCharacter, shorter line", shorter, INDEX, 0, 10, PromiseDepot::lineCharacter);
        refused("lineCharacter, after a refused writeLot", Stories.USED.then(d -> Check.thrownBy(() -> d.writeLot(7))), INDEX, 0, 14,
                PromiseDepot::lineCharacter);
    }
}
