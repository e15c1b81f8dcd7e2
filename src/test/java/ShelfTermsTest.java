import java.util.NoSuchElementException;

/** The document's terms, sentence by sentence: expired lots, shelves, lots, and placing. */
public final class ShelfTermsTest {
    private static final Class<NoSuchElementException> NONE = NoSuchElementException.class;

    public static void main(String[] args) {
        anExpiredLotLeavesNoShelfButByARecall();
        atMostEightShelves();
        shelvesAreIndexedInOrderAndNeverRemoved();
        zonesAndCapacities();
        volumesAreNeverGreaterThanTheCapacity();
        roomIsCapacityLessVolumes();
        numbersOfLotsBeginWith0();
        atMostTwentyLots();
        twentyLotsAreNotEndedByGoneOnes();
        atMostEightLotsOnShelves();
        eightLotsOverAllShelves();
        whatMakesPlaceForAnEighthLot();
        kindsZonesAndExpiries();
        onAShelfOnTheHeapOrGone();
        expiredWhereverItIs();
        goneKeepsAllButTheVolume();
        placedWhereTheRoomIsLeast();
        placedOnTheLowestIndexOfEqualRoom();
        placedInItsZoneAlone();
        placedAsShelfForTells();
        countingAndDays();
        fewestShelvesOfNone();
        fewestShelvesExactly();
        fewestShelvesWhereTheGreatestFirstIsNotBest();
        fewestShelvesOfEight();
        fewestShelvesAskedAgain();
        Check.finish("ShelfTermsTest");
    }

    private static Story shelf(int zone, int capacity) {
        return d -> d.addShelf(zone, capacity);
    }

    private static Story lot(int kind, int volume, int zone, int days) {
        return d -> d.receive(kind, volume, zone, days);
    }

    private static void anExpiredLotLeavesNoShelfButByARecall() {
        Story expired = shelf(0, 20).then(shelf(0, 30)).then(lot(0, 9, 0, 0)).then(lot(0, 3, 0, 9)).then(d -> d.pass(1));
        Refusal.denied("move", expired, 3, 0, d -> d.move(0, 1));
        Refusal.denied("move where it is", expired, 3, 0, d -> d.move(0, 0));
        Refusal.denied("split", expired, 3, 0, d -> d.split(0, 1));
        Refusal.denied("mix as first", expired, 3, 0, d -> d.mix(0, 1));
        Refusal.denied("mix as second", expired, 3, 0, d -> d.mix(1, 0));
        Refusal.denied("ship", expired, 6, 3, d -> d.ship(0, 4));
        PromiseDepot d = expired.depot();
        Check.due("ship beside it", d.ship(0, 3), 1);
        d.pass(99);
        Check.due("it stays", Check.lineOf(d, 0), "0k0z0v9e0!@0");
        Check.throwing("compost", UnsupportedOperationException.class, d::compost);
        Check.due("recall", d.recall(0), 1);
        Check.due("on the heap", Check.lineOf(d, 0), "0k0z0v9e0!h");
        Check.due("compost then", d.compost(), 9);
        PromiseDepot today = shelf(0, 20).then(shelf(0, 30)).then(lot(0, 9, 0, 0)).depot();
        Check.due("move on the day of its expiry", today.move(0, 1), 21);
        Check.due("split on the day of its expiry", today.split(0, 2), 1);
        Check.due("mix on the day of its expiry", today.mix(0, 1), 2);
        Check.due("ship on the day of its expiry", today.ship(0, 9), 1);
    }

    private static void atMostEightShelves() {
        Story seven = d -> {
            for (int i = 0; i < 7; i++) {
                d.addShelf(i % 3, 1 + i);
            }
        };
        Check.due("the eighth", seven.depot().addShelf(1, 40), 7);
        Story eight = seven.then(shelf(1, 40));
        for (int zone = 0; zone < 3; zone++) {
            int one = zone;
            Refusal.denied("the ninth", eight, 1, 8, d -> d.addShelf(one, 1));
        }
        Check.due("shelves", eight.then(shelf(0, 1).refused()).depot().shelfCount(), 8);
        PromiseDepot d = eight.depot();
        d.undo();
        Check.due("the eighth after an undo", d.addShelf(2, 3), 7);
    }

    private static void shelvesAreIndexedInOrderAndNeverRemoved() {
        PromiseDepot d = new PromiseDepot();
        int[] zones = {2, 0, 1, 1, 0};
        for (int i = 0; i < zones.length; i++) {
            Check.due("index", d.addShelf(zones[i], 10 + i), i);
            Check.due("shelves", d.shelfCount(), i + 1);
        }
        d.receive(0, 14, 0, 0);
        d.ship(0, 14);
        d.receive(0, 5, 2, 0);
        d.pass(1);
        d.recall(1);
        d.compost();
        d.count(2);
        Check.due("shelves afterwards", d.shelfCount(), 5);
        for (int i = 0; i < zones.length; i++) {
            Check.due("zone afterwards", d.zoneOf(i), zones[i]);
            Check.due("empty, the room is the capacity", d.roomOf(i), 10 + i);
        }
    }

    private static void zonesAndCapacities() {
        for (int zone = 0; zone < 3; zone++) {
            for (int capacity = 1; capacity <= 40; capacity++) {
                PromiseDepot d = shelf(zone, capacity).depot();
                Check.due("zone", d.zoneOf(0), zone);
                Check.due("capacity", d.roomOf(0), capacity);
                Check.due("no lots", d.lotsOn(0), 0);
                Check.due("it holds its capacity", d.receive(0, capacity, zone, 0), 0);
                Check.due("no room is left", d.roomOf(0), 0);
            }
        }
    }

    private static void volumesAreNeverGreaterThanTheCapacity() {
        Story nine = shelf(0, 10).then(lot(0, 9, 0, 5));
        Check.due("one more", nine.depot().receive(0, 1, 0, 5), 1);
        Refusal.denied("two more", nine, 2, 2, lot(0, 2, 0, 5));
        Refusal.denied("none more", nine.then(lot(0, 1, 0, 5)), 2, 1, lot(0, 1, 0, 5));
        Story two = shelf(0, 10).then(shelf(0, 8)).then(lot(0, 8, 0, 5)).then(lot(0, 8, 0, 5));
        Check.due("lots of 8 on the shelves 1 and 0", two.depot().shelfOf(0) * 10 + two.depot().shelfOf(1), 10);
        Refusal.denied("move of 8 to a room of 2", two, 2, 8, d -> d.move(0, 0));
        Story parted = two.then(d -> d.split(0, 2)).then(d -> d.split(0, 3));
        Check.due("move of 2 to a room of 2", parted.depot().move(2, 0), 0);
        Refusal.denied("move of 3 to a room of 2", parted, 2, 3, d -> d.move(3, 0));
        Refusal.denied("move of 3 to no room", parted.then(d -> d.move(2, 0)), 2, 3, d -> d.move(3, 0));
        Refusal.denied("mix of 11", shelf(0, 10).then(shelf(0, 1)).then(lot(0, 10, 0, 1)).then(lot(0, 1, 0, 1)), 2, 11, d -> d.mix(0, 1));
    }

    private static void roomIsCapacityLessVolumes() {
        PromiseDepot d = shelf(0, 30).then(shelf(0, 40)).depot();
        d.receive(0, 12, 0, 5);
        Check.due("received", d.roomOf(0), 18);
        d.split(0, 5);
        Check.due("split changes no room", d.roomOf(0), 18);
        d.move(1, 1);
        Check.due("moved away", d.roomOf(0), 23);
        Check.due("moved there", d.roomOf(1), 35);
        d.mix(0, 1);
        Check.due("mixed", d.roomOf(0), 18);
        Check.due("mixed away", d.roomOf(1), 40);
        d.ship(0, 4);
        Check.due("shipped in part", d.roomOf(0), 22);
        d.receive(1, 6, 0, 0);
        d.pass(1);
        Check.due("an expired lot takes room", d.roomOf(0), 16);
        d.recall(3);
        Check.due("recalled", d.roomOf(0), 22);
        d.compost();
        Check.due("composted changes no room", d.roomOf(0), 22);
        d.ship(0, 8);
        Check.due("shipped", d.roomOf(0), 30);
    }

    private static void numbersOfLotsBeginWith0() {
        PromiseDepot d = shelf(0, 40).depot();
        Check.due("no lots", d.lotCount(), 0);
        Check.due("received", d.receive(0, 9, 0, 5), 0);
        Check.due("split", d.split(0, 2), 1);
        Check.denied("denied", d, 2, 40, () -> d.receive(0, 40, 0, 5));
        Check.due("received after a denial", d.receive(0, 9, 0, 5), 2);
        Check.due("mixed", d.mix(0, 2), 3);
        d.ship(0, 18);
        Check.due("received after all are gone", d.receive(0, 9, 0, 5), 4);
        Check.due("lots", d.lotCount(), 5);
        d.undo();
        Check.due("received after an undo", d.receive(3, 9, 0, 5), 4);
    }

    private static Story lots(int shipped, int kept) {
        return d -> {
            d.addShelf(0, 40);
            d.addShelf(0, 40);
            for (int i = 0; i < shipped; i++) {
                d.receive(5, 1, 0, 0);
                d.ship(5, 1);
            }
            for (int i = 0; i < kept; i++) {
                d.receive(0, 4, 0, 9);
            }
        };
    }

    private static void atMostTwentyLots() {
        Story nineteen = lots(17, 2);
        Story receive = lot(1, 1, 0, 0);
        Check.due("nineteen", nineteen.depot().lotCount(), 19);
        Check.due("the twentieth, received", nineteen.depot().receive(1, 1, 0, 0), 19);
        Check.due("the twentieth, split", nineteen.depot().split(17, 3), 19);
        Check.due("the twentieth, mixed", nineteen.depot().mix(17, 18), 19);
        Story[] ends = {nineteen.then(receive), nineteen.then(d -> d.split(17, 2)), nineteen.then(d -> d.mix(17, 18)).then(d -> d.undo()).then(receive)};
        for (Story twenty : ends) {
            Check.due("twenty", twenty.depot().lotCount(), 20);
            Refusal.denied("one more, received", twenty, 1, 20, receive);
            Refusal.denied("one more, split", twenty, 1, 20, d -> d.split(17, 1));
            Refusal.denied("one more, mixed", twenty, 1, 20, d -> d.mix(17, 18));
        }
        Refusal.denied("one more than a mixed one", nineteen.then(d -> d.mix(17, 18)), 1, 20, receive);
        Refusal.denied("one more, split from a mixed one", nineteen.then(d -> d.mix(17, 18)), 1, 20, d -> d.split(19, 1));
    }

    private static void twentyLotsAreNotEndedByGoneOnes() {
        Story gone = lots(20, 0);
        Check.due("none is on a shelf", gone.depot().stored(), 0);
        Refusal.denied("one more", gone, 1, 20, lot(0, 1, 0, 0));
        PromiseDepot d = gone.depot();
        d.undo();
        Refusal.denied("an undo of the ship", gone.then(PromiseDepot::undo), 1, 20, lot(0, 1, 0, 0));
        d.undo();
        Check.due("an undo of the receive", d.receive(0, 1, 0, 0), 19);
    }

    private static void atMostEightLotsOnShelves() {
        Story seven = lots(0, 7);
        Check.due("the eighth, received", seven.depot().receive(0, 1, 0, 0), 7);
        Check.due("the eighth, split", seven.depot().split(6, 1), 7);
        for (Story eight : new Story[] {lots(0, 8), seven.then(d -> d.split(0, 1)), lots(4, 8), lots(0, 8).then(d -> d.mix(0, 1)).then(d -> d.split(8, 4))}) {
            int last = eight.depot().lotCount() - 1;
            Check.due("eight", eight.depot().lotsOn(0) + eight.depot().lotsOn(1), 8);
            Refusal.denied("the ninth, received", eight, 1, 8, lot(1, 1, 0, 0));
            Refusal.denied("the ninth, split", eight, 1, 8, d -> d.split(last - 1, 1));
            Check.due("mixing is no ninth", eight.depot().mix(last - 1, last), last + 1);
        }
        Refusal.denied("the ninth after mix and split", lots(0, 8).then(d -> d.mix(0, 1)).then(d -> d.split(8, 1)), 1, 8, lot(0, 1, 0, 0));
    }

    private static void eightLotsOverAllShelves() {
        Story eight = d -> {
            for (int i = 0; i < 6; i++) {
                d.addShelf(i % 3, 20);
            }
            for (int i = 0; i < 8; i++) {
                d.receive(i % 6, 3, i % 3, 9);
            }
        };
        for (int zone = 0; zone < 3; zone++) {
            int one = zone;
            Refusal.denied("the ninth, zone " + zone, eight, 1, 8, lot(0, 1, one, 0));
        }
        Refusal.denied("the ninth, split", eight, 1, 8, d -> d.split(7, 1));
    }

    private static void whatMakesPlaceForAnEighthLot() {
        Story eight = lots(0, 8);
        Story one = lot(3, 1, 0, 0);
        Refusal.denied("eight", eight, 1, 8, one);
        Check.due("after a recall", eight.then(d -> d.recall(3)).depot().receive(3, 1, 0, 0), 8);
        Check.due("after all of one is shipped", eight.then(d -> d.ship(0, 4)).depot().receive(3, 1, 0, 0), 8);
        Check.due("after a mix", eight.then(d -> d.mix(0, 1)).depot().receive(3, 1, 0, 0), 9);
        Refusal.denied("after a part of one is shipped", eight.then(d -> d.ship(0, 3)), 1, 8, one);
        Refusal.denied("after all have expired", eight.then(d -> d.pass(99)), 1, 8, one);
        Story heap = lots(0, 8).then(d -> {
            for (int i = 0; i < 8; i++) {
                d.recall(i);
            }
        });
        Check.due("lots on the heap do not count", heap.depot().receive(3, 1, 0, 0), 8);
        Refusal.denied("after a recall of one that is on the heap", heap.then(d -> {
            for (int i = 0; i < 8; i++) {
                d.receive(0, 1, 0, 0);
            }
            d.recall(0);
        }), 1, 8, one);
    }

    private static void kindsZonesAndExpiries() {
        for (int kind = 0; kind < 6; kind++) {
            for (int zone = 0; zone < 3; zone++) {
                for (int days : new int[] {0, 1, 50, 98, 99}) {
                    PromiseDepot d = shelf(zone, 40).depot();
                    d.pass(7);
                    d.receive(kind, 1 + days % 40, zone, days);
                    String due = "0k" + kind + "z" + zone + "v" + (1 + days % 40) + "e" + (7 + days) + "@0";
                    Check.due("lot", Check.lineOf(d, 0), due);
                    Check.due("expiry", d.expiryOf(0), 7 + days);
                    Check.due("kind", d.firstToShip(kind), 0);
                    Check.due("available", d.available(kind), 1 + days % 40);
                }
            }
        }
    }

    private static void place(String what, PromiseDepot d, int lot, boolean shelf, int heapSize) {
        Check.due(what + ", on a shelf", d.isOnShelf(lot), shelf);
        Check.due(what + ", heap", d.heapSize(), heapSize);
        Check.due(what + ", shelfOf throws", Check.thrownBy(() -> d.shelfOf(lot)), shelf ? "nothing" : "NoSuchElementException");
    }

    private static void onAShelfOnTheHeapOrGone() {
        PromiseDepot d = shelf(0, 9).then(lot(0, 5, 0, 5)).then(lot(0, 4, 0, 5)).depot();
        place("received", d, 0, true, 0);
        d.recall(0);
        place("recalled", d, 0, false, 1);
        Check.due("volume on the heap", d.volumeOf(0), 5);
        d.compost();
        place("composted", d, 0, false, 0);
        d.ship(0, 4);
        place("shipped", d, 1, false, 0);
        Check.throwing("nothing to compost", NONE, d::nextCompost);
    }

    private static void expiredWhereverItIs() {
        PromiseDepot d = shelf(0, 40).depot();
        for (int i = 0; i < 5; i++) {
            d.receive(i == 0 ? 0 : 1, 5, 0, 2);
        }
        d.ship(0, 5);
        d.recall(1);
        d.recall(2);
        d.compost();
        d.split(3, 2);
        d.mix(5, 4);
        for (int day = 0; day <= 4; day++) {
            for (int lot = 0; lot < 7; lot++) {
                Check.due("lot " + lot + " on day " + day, d.isExpired(lot), day > 2);
                Check.due("sign of lot " + lot + " on day " + day, Check.lineOf(d, lot).indexOf('!') >= 0, day > 2);
            }
            d.pass(1);
        }
        PromiseDepot e = shelf(0, 40).then(lot(0, 5, 0, 0)).depot();
        Check.due("on day 0, of 0 days", e.isExpired(0), false);
        e.pass(1);
        Check.due("on day 1, of 0 days", e.isExpired(0), true);
        PromiseDepot f = shelf(0, 40).then(lot(0, 5, 0, 99)).then(d2 -> d2.pass(99)).depot();
        Check.due("on day 99, of 99 days", f.isExpired(0), false);
        f.pass(1);
        Check.due("on day 100, of 99 days", f.isExpired(0), true);
    }

    private static void goneKeepsAllButTheVolume() {
        PromiseDepot d = shelf(2, 40).depot();
        d.receive(4, 6, 2, 3);
        d.ship(4, 6);
        Check.due("shipped", Check.lineOf(d, 0), "0k4z2v0e3-");
        d.receive(5, 7, 2, 8);
        d.recall(1);
        d.compost();
        Check.due("composted", Check.lineOf(d, 1), "1k5z2v0e8-");
        d.receive(3, 4, 2, 9);
        d.split(2, 1);
        d.mix(2, 3);
        Check.due("mixed, first", Check.lineOf(d, 2), "2k3z2v0e9-");
        Check.due("mixed, second", Check.lineOf(d, 3), "3k3z2v0e9-<2");
        for (int lot = 0; lot < 4; lot++) {
            Check.due("volume", d.volumeOf(lot), 0);
        }
        d.pass(4);
        Check.due("expired when it is gone", Check.lineOf(d, 0), "0k4z2v0e3!-");
        Check.due("nothing more of its kind", d.available(4), 0);
    }

    private static void placedWhereTheRoomIsLeast() {
        Story three = shelf(0, 12).then(shelf(0, 10)).then(shelf(0, 11));
        int[] due = {1, 1, 1, 1, 1, 1, 1, 1, 1, 1, 2, 0};
        for (int volume = 1; volume <= 12; volume++) {
            int one = volume;
            Check.due("shelfFor " + volume, three.depot().shelfFor(0, volume), due[volume - 1]);
            Check.due("received, " + volume, three.then(lot(0, one, 0, 0)).depot().shelfOf(0), due[volume - 1]);
        }
        Refusal.denied("room for none", three, 2, 13, lot(0, 13, 0, 0));
        Refusal.thrown("shelfFor none", three, NONE, d -> d.shelfFor(0, 13));
        PromiseDepot d = three.then(lot(0, 4, 0, 0)).then(lot(0, 7, 0, 0)).depot();
        Check.due("the room that is left counts, not the capacity", d.shelfFor(0, 4), 2);
        Check.due("the room that is just enough", d.shelfFor(0, 5), 1);
    }

    private static void placedOnTheLowestIndexOfEqualRoom() {
        Story equal = shelf(0, 12).then(shelf(0, 9)).then(shelf(1, 9)).then(shelf(0, 9)).then(shelf(0, 9));
        Check.due("of three", equal.depot().shelfFor(0, 9), 1);
        Check.due("of two", equal.then(lot(0, 9, 0, 0)).depot().shelfFor(0, 3), 3);
        Check.due("the last", equal.then(lot(0, 9, 0, 0)).then(lot(0, 9, 0, 0)).depot().shelfFor(0, 3), 4);
        Check.due("the first, though it came to be so later", equal.then(lot(0, 10, 0, 0)).then(d -> d.split(0, 1)).depot().shelfFor(0, 3), 1);
        PromiseDepot d = equal.then(lot(0, 12, 0, 9)).then(d2 -> d2.ship(0, 9)).depot();
        Check.due("the room of shelf 0 has become equal", d.roomOf(0), 9);
        Check.due("and its index is the lowest", d.receive(0, 8, 0, 9), 1);
        Check.due("shelf", d.shelfOf(1), 0);
    }

    private static void placedInItsZoneAlone() {
        Story three = shelf(2, 5).then(shelf(1, 7)).then(shelf(0, 9));
        for (int zone = 0; zone < 3; zone++) {
            Check.due("zone " + zone, three.depot().shelfFor(zone, 1), 2 - zone);
            int one = zone;
            int tooMuch = 9 - 2 * zone + 1;
            Refusal.denied("more than zone " + zone + " has", three, 2, tooMuch, lot(0, tooMuch, one, 0));
        }
        Refusal.denied("no shelf of the zone", shelf(0, 40).then(shelf(2, 40)), 2, 1, lot(0, 1, 1, 0));
    }

    private static void placedAsShelfForTells() {
        PromiseDepot d = shelf(0, 15).then(shelf(0, 14)).then(shelf(0, 13)).depot();
        int[] volumes = {7, 6, 7, 6, 8, 1, 1};
        for (int lot = 0; lot < volumes.length; lot++) {
            int shelf = d.shelfFor(0, volumes[lot]);
            d.receive(0, volumes[lot], 0, 0);
            Check.due("lot " + lot, d.shelfOf(lot), shelf);
        }
    }

    private static void countingAndDays() {
        PromiseDepot d = shelf(0, 40).then(shelf(0, 5)).depot();
        Check.due("count of an empty shelf", d.count(1), 0);
        Check.due("counted on day 0", d.countedDay(1), 0);
        d.receive(0, 20, 0, 0);
        d.split(0, 1);
        d.pass(99);
        Check.due("expired lots are counted", d.count(0), 2);
        Check.due("counted on day 99", d.countedDay(0), 99);
        d.recall(1);
        Check.due("lots on the heap are not", d.count(0), 1);
        Check.due("and that is today once more", d.countedDay(0), 99);
        Check.due("the other keeps its day", d.countedDay(1), 0);
        Refusal.thrown("a shelf of which nothing but lots have come", shelf(0, 5).then(lot(0, 1, 0, 0)), NONE, e -> e.countedDay(0));
    }

    private static void fewest(String what, Story story, int zone, int due) {
        Check.due(what + ", by sets", story.depot().fewestShelves(zone), due);
        Check.due(what + ", by search", story.depot().fewestShelvesBySearch(zone), due);
    }

    private static void fewestShelvesOfNone() {
        fewest("no shelves", Stories.NEW, 0, 0);
        fewest("a shelf, no lots", shelf(0, 5), 0, 0);
        fewest("lots of another zone", shelf(0, 5).then(shelf(1, 5)).then(lot(0, 5, 1, 0)), 0, 0);
        fewest("a lot on the heap", shelf(0, 5).then(lot(0, 5, 0, 0)).then(d -> d.recall(0)), 0, 0);
        fewest("a lot that is gone", shelf(0, 5).then(lot(0, 5, 0, 0)).then(d -> d.ship(0, 5)), 0, 0);
        fewest("an expired lot", shelf(0, 5).then(lot(0, 5, 0, 0)).then(d -> d.pass(1)), 0, 1);
    }

    private static void fewestShelvesExactly() {
        Story three = shelf(0, 10).then(shelf(0, 10)).then(shelf(0, 10));
        fewest("10 on one of 10", three.then(lot(0, 6, 0, 0)).then(lot(0, 4, 0, 0)), 0, 1);
        fewest("11 on two of 10", three.then(lot(0, 6, 0, 0)).then(lot(0, 5, 0, 0)), 0, 2);
        fewest("20 on two of 10", three.then(lot(0, 6, 0, 0)).then(lot(0, 4, 0, 0)).then(lot(0, 7, 0, 0)).then(lot(0, 3, 0, 0)), 0, 2);
        fewest("three of 6 on three of 10", three.then(lot(0, 6, 0, 0)).then(lot(0, 6, 0, 0)).then(lot(0, 6, 0, 0)), 0, 3);
        fewest("lots of two kinds together", three.then(lot(0, 6, 0, 0)).then(lot(1, 4, 0, 3)), 0, 1);
        Story sizes = shelf(1, 4).then(shelf(1, 9)).then(shelf(0, 40)).then(shelf(1, 5));
        fewest("4 and 5 on the shelf of 9", sizes.then(lot(0, 4, 1, 0)).then(lot(0, 5, 1, 0)), 1, 1);
        fewest("4 and 6 on two, not on that of another zone", sizes.then(lot(0, 4, 1, 0)).then(lot(0, 6, 1, 0)), 1, 2);
        fewest("9, 5 and 4 on all three", sizes.then(lot(0, 9, 1, 0)).then(lot(0, 5, 1, 0)).then(lot(0, 4, 1, 0)), 1, 3);
    }

    private static void fewestShelvesWhereTheGreatestFirstIsNotBest() {
        Story four = shelf(0, 10).then(shelf(0, 10)).then(shelf(0, 10)).then(shelf(0, 10));
        Story six = four;
        for (int volume : new int[] {4, 4, 3, 3, 3, 3}) {
            six = six.then(lot(0, volume, 0, 0));
        }
        fewest("4 + 3 + 3 twice, not 4 + 4", six, 0, 2);
        Story unequal = shelf(2, 7).then(shelf(2, 11)).then(shelf(2, 8));
        for (int volume : new int[] {6, 5, 4, 4}) {
            unequal = unequal.then(lot(0, volume, 2, 0));
        }
        fewest("6 + 5 on 11, 4 + 4 on 8", unequal, 2, 2);
    }

    private static void fewestShelvesOfEight() {
        Story shelves = d -> {
            for (int i = 0; i < 8; i++) {
                d.addShelf(1, 10);
            }
        };
        for (int volume = 1; volume <= 10; volume++) {
            Story eight = shelves;
            for (int i = 0; i < 8; i++) {
                eight = eight.then(lot(0, volume, 1, 0));
            }
            int together = 10 / volume;
            fewest("eight of " + volume, eight, 1, (8 + together - 1) / together);
        }
    }

    private static void fewestShelvesAskedAgain() {
        PromiseDepot d = new PromiseDepot();
        for (int shelf = 0; shelf < 8; shelf++) {
            d.addShelf(shelf < 4 ? 0 : shelf < 7 ? 1 : 2, 10 + shelf);
        }
        int[][] lots = {{0, 9}, {0, 9}, {0, 10}, {1, 8}, {1, 9}, {2, 7}, {2, 5}};
        for (int[] lot : lots) {
            d.receive(0, lot[1], lot[0], 0);
        }
        int[] due = {3, 2, 1};
        for (int i = 0; i < 30; i++) {
            int zone = i * 2 % 3;
            Check.due("zone " + zone + ", by sets", d.fewestShelves(zone), due[zone]);
            Check.due("zone " + zone + ", by search", d.fewestShelvesBySearch((zone + 1) % 3), due[(zone + 1) % 3]);
        }
        d.recall(0);
        Check.due("by sets, after a recall", d.fewestShelves(0), 2);
        Check.due("by search, after a recall", d.fewestShelvesBySearch(0), 2);
        d.recall(1);
        d.recall(2);
        Check.due("by sets, when none is left", d.fewestShelves(0), 0);
        Check.due("by search, when none is left", d.fewestShelvesBySearch(0), 0);
        Check.due("by sets, of another zone", d.fewestShelves(1), 2);
        Check.due("by search, of another zone", d.fewestShelvesBySearch(2), 1);
    }
}
