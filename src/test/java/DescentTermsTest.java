import java.util.NoSuchElementException;

/** The document's terms, sentence by sentence: descent, shipping, recalls, the heap, and counts. */
public final class DescentTermsTest {
    private static final Class<NoSuchElementException> NONE = NoSuchElementException.class;

    public static void main(String[] args) {
        aReceivedLotHasNoParents();
        aSplitLotIsTheOnlyParent();
        aPartComesIntoBeingOnTheSameShelf();
        volumesOfPartAndRest();
        twoMixedLotsAreGone();
        theEarlierOfBothExpiries();
        theParentsInTheirOrder();
        aMixtureIsPlacedAfterBothHaveLeft();
        aMixtureNeedsTheRoom();
        descendantsOfDescendants();
        aDescendantByTwoWaysCountsOnce();
        noLotIsItsOwnDescendant();
        descendantsAfterAllAreGone();
        descentOfTwenty();
        lotsByExpiryAndNumber();
        shippedFromTheLowestExpiryFirst();
        shippedFromTheLowestNumberOfEqualExpiries();
        shippedWholeOrInPart();
        notShippedFromOthers();
        allThatThereIsAndOneMore();
        recallsOfLotsOnShelves();
        recallsOfLotsOnTheHeap();
        recallsOfLotsThatAreGone();
        recallsBringNoAncestorsAndNoStrangers();
        recallsOfEight();
        compostedByVolumeExpiryAndNumber();
        compostedByTheVolumeThatIsLeft();
        heapOfTwenty();
        heapOfEightInEveryOrder();
        heapThatGrowsAndShrinks();
        heapOfWhichOneSideIsGreater();
        countedNeverFirst();
        countedOnEarlierDaysFirst();
        countedWithMoreLotsFirst();
        countedOfEight();
        daysAndLotsThatExpire();
        meansAndShares();
        accountsAlwaysAddUp();
        Check.finish("DescentTermsTest");
    }

    private static Story shelf(int zone, int capacity) {
        return d -> d.addShelf(zone, capacity);
    }

    private static Story lot(int kind, int volume, int days) {
        return d -> d.receive(kind, volume, 0, days);
    }

    private static void descendants(String what, PromiseDepot d, int... due) {
        for (int lot = 0; lot < due.length; lot++) {
            Check.due(what + ", descendants of " + lot, d.descendants(lot), due[lot]);
            Check.due(what + ", by table, of " + lot, d.descendantsByTable(lot), due[lot]);
        }
    }

    private static void aReceivedLotHasNoParents() {
        PromiseDepot d = shelf(0, 40).then(lot(0, 5, 5)).then(lot(0, 5, 5)).depot();
        for (int lot = 0; lot < 2; lot++) {
            Check.due("parents", d.parentCount(lot), 0);
            Check.due("line", Check.lineOf(d, lot), lot + "k0z0v5e5@0");
        }
        descendants("two received lots", d, 0, 0);
        PromiseDepot e = shelf(0, 40).then(lot(0, 5, 5)).then(d2 -> d2.split(0, 2)).then(PromiseDepot::undo).then(lot(0, 5, 5)).depot();
        Check.due("received where a part was undone", e.parentCount(1), 0);
    }

    private static void aSplitLotIsTheOnlyParent() {
        PromiseDepot d = shelf(0, 40).then(lot(0, 9, 5)).depot();
        d.split(0, 4);
        Check.due("parents of the part", d.parentCount(1), 1);
        Check.due("parents of the split lot", d.parentCount(0), 0);
        Check.due("it descends", d.descendsFrom(1, 0), true);
        Check.due("not the other way", d.descendsFrom(0, 1), false);
        d.split(1, 2);
        Check.due("part of the part", Check.lineOf(d, 2), "2k0z0v2e5@0<1");
        d.split(0, 1);
        Check.due("another part", Check.lineOf(d, 3), "3k0z0v1e5@0<0");
        Check.due("parts of one lot do not descend from each other", d.descendsFrom(3, 1), false);
    }

    private static void aPartComesIntoBeingOnTheSameShelf() {
        Story full = shelf(0, 20).then(shelf(0, 3)).then(lot(2, 20, 6)).then(d -> d.pass(2));
        PromiseDepot d = full.depot();
        Check.due("the shelf is full, and another has less room", d.split(0, 3), 1);
        Check.due("part", Check.lineOf(d, 1), "1k2z0v3e6@0<0");
        Check.due("room", d.roomOf(0), 0);
        Check.due("lots on it", d.lotsOn(0), 2);
        PromiseDepot e = full.then(d2 -> d2.split(0, 3)).then(d2 -> d2.move(1, 1)).depot();
        e.split(1, 1);
        Check.due("where the split lot is now", e.shelfOf(2), 1);
    }

    private static void volumesOfPartAndRest() {
        Story nine = shelf(0, 40).then(lot(0, 9, 5));
        for (int volume = 1; volume < 9; volume++) {
            PromiseDepot d = nine.depot();
            Check.due("part of " + volume, d.split(0, volume), 1);
            Check.due("part", d.volumeOf(1), volume);
            Check.due("rest", d.volumeOf(0), 9 - volume);
            Check.due("stored", d.stored(), 9);
        }
        Refusal.denied("all of it", nine, 6, 9, d -> d.split(0, 9));
        Refusal.denied("one more than all", nine, 6, 9, d -> d.split(0, 10));
        Refusal.denied("40", nine, 6, 9, d -> d.split(0, 40));
        Refusal.denied("of a lot of 1", shelf(0, 40).then(lot(0, 1, 5)), 6, 1, d -> d.split(0, 1));
    }

    private static void twoMixedLotsAreGone() {
        PromiseDepot d = shelf(0, 40).then(shelf(0, 40)).then(lot(3, 9, 5)).then(lot(3, 4, 5)).depot();
        Check.due("number", d.mix(0, 1), 2);
        for (int lot = 0; lot < 2; lot++) {
            Check.due("on no shelf", d.isOnShelf(lot), false);
            Check.due("volume", d.volumeOf(lot), 0);
        }
        Check.due("not on the heap", d.heapSize(), 0);
        Check.due("both volumes together", d.volumeOf(2), 13);
        Check.due("kind and zone", Check.lineOf(d, 2), "2k3z0v13e5@0<0<1");
        Check.due("stored", d.stored(), 13);
        Refusal.denied("mixed once more", shelf(0, 40).then(lot(3, 9, 5)).then(lot(3, 4, 5)).then(e -> e.mix(0, 1)), 5, 0, e -> e.mix(0, 2));
    }

    private static void theEarlierOfBothExpiries() {
        int[][] days = {{3, 8, 3}, {8, 3, 3}, {5, 5, 5}, {0, 99, 0}, {99, 98, 98}};
        for (int[] three : days) {
            PromiseDepot d = shelf(0, 40).then(lot(0, 2, three[0])).then(lot(0, 2, three[1])).depot();
            d.mix(0, 1);
            Check.due("earlier of " + three[0] + " and " + three[1], d.expiryOf(2), three[2]);
        }
    }

    private static void theParentsInTheirOrder() {
        Story two = shelf(0, 40).then(lot(0, 2, 1)).then(lot(0, 2, 2));
        PromiseDepot d = two.depot();
        d.mix(0, 1);
        Check.due("0 and 1", Check.lineOf(d, 2), "2k0z0v4e1@0<0<1");
        PromiseDepot e = two.depot();
        e.mix(1, 0);
        Check.due("1 and 0", Check.lineOf(e, 2), "2k0z0v4e1@0<1<0");
        Check.due("parents", e.parentCount(2), 2);
        PromiseDepot f = two.then(d2 -> d2.split(0, 1)).depot();
        f.mix(2, 0);
        Check.due("a part with the lot it was split from", Check.lineOf(f, 3), "3k0z0v2e1@0<2<0");
        descendants("a part with its own parent", f, 2, 0, 1, 0);
    }

    private static void aMixtureIsPlacedAfterBothHaveLeft() {
        Story onOne = shelf(0, 10).then(lot(0, 6, 5)).then(lot(0, 4, 5));
        PromiseDepot d = onOne.depot();
        Check.due("both leave the only shelf", d.mix(0, 1), 2);
        Check.due("and it is full again", d.roomOf(0), 0);
        Story onTwo = shelf(0, 7).then(shelf(0, 6)).then(shelf(0, 12)).then(lot(0, 6, 5)).then(lot(0, 7, 5));
        Check.due("13 on no shelf of 12", Check.thrownBy(() -> onTwo.depot().mix(0, 1)), "UnsupportedOperationException");
        PromiseDepot e = onTwo.then(d2 -> d2.ship(0, 4)).depot();
        Check.due("shelves of 2 and 7", e.shelfOf(0) * 10 + e.shelfOf(1), 10);
        e.mix(0, 1);
        Check.due("9 goes where neither was", e.shelfOf(2), 2);
        PromiseDepot g = shelf(0, 9).then(shelf(0, 8)).then(lot(0, 3, 5)).then(lot(0, 9, 5)).then(d2 -> d2.split(1, 4)).depot();
        Check.due("lot 0 on shelf 1, the others on shelf 0", g.shelfOf(0) * 100 + g.shelfOf(1) * 10 + g.shelfOf(2), 100);
        g.mix(0, 2);
        Check.due("7: the least room is that of shelf 1 after lot 0 has left it", g.shelfOf(3), 1);
        PromiseDepot h = shelf(0, 8).then(shelf(0, 8)).then(lot(0, 8, 5)).then(lot(0, 3, 5)).then(d2 -> d2.ship(0, 5)).depot();
        Check.due("lots of 3 on both shelves", h.roomOf(0) * 10 + h.roomOf(1), 55);
        h.mix(1, 0);
        Check.due("equal room after both have left: the lowest index", h.shelfOf(2), 0);
    }

    private static void aMixtureNeedsTheRoom() {
        Story two = shelf(0, 9).then(shelf(0, 8)).then(lot(0, 6, 5)).then(lot(0, 4, 5));
        Refusal.denied("one too much", two, 2, 10, d -> d.mix(0, 1));
        Check.due("just enough", two.then(d -> d.ship(0, 1)).depot().mix(0, 1), 2);
        Refusal.denied("a third lot takes the room", shelf(0, 9).then(shelf(0, 8)).then(lot(1, 1, 5)).then(d -> d.move(0, 0)).then(lot(0, 7, 5))
                .then(lot(0, 2, 5)), 2, 9, d -> d.mix(1, 2));
        Refusal.denied("80 on shelves of 40", shelf(0, 40).then(shelf(0, 40)).then(lot(0, 40, 5)).then(lot(0, 40, 5)), 2, 80, d -> d.mix(0, 1));
    }

    private static void descendantsOfDescendants() {
        Story chain = shelf(0, 40).then(lot(0, 20, 9));
        for (int lot = 0; lot < 7; lot++) {
            int last = lot;
            chain = chain.then(d -> d.split(last, 19 - 2 * last));
        }
        descendants("a chain of eight", chain.depot(), 7, 6, 5, 4, 3, 2, 1, 0);
        PromiseDepot d = chain.depot();
        for (int lot = 0; lot < 8; lot++) {
            for (int ancestor = 0; ancestor < 8; ancestor++) {
                Check.due(lot + " from " + ancestor, d.descendsFrom(lot, ancestor), lot > ancestor);
            }
        }
        Story mixed = chain.then(e -> e.mix(7, 0)).then(lot(0, 1, 9)).then(e -> e.mix(9, 8));
        descendants("the ends mixed, and with a stranger", mixed.depot(), 9, 8, 7, 6, 5, 4, 3, 2, 1, 1, 0);
    }

    private static void aDescendantByTwoWaysCountsOnce() {
        Story diamond = shelf(0, 40).then(lot(0, 20, 9)).then(d -> d.split(0, 6)).then(d -> d.split(0, 5)).then(d -> d.mix(1, 2));
        descendants("by two ways", diamond.depot(), 3, 1, 1, 0);
        Story twice = diamond.then(d -> d.split(3, 4)).then(d -> d.split(3, 3)).then(d -> d.mix(4, 5));
        descendants("by four ways", twice.depot(), 6, 4, 4, 3, 1, 1, 0);
        Check.due("recalled once", twice.depot().recall(0), 3);
        Check.due("recallSize", twice.depot().recallSize(0), 3);
    }

    private static void noLotIsItsOwnDescendant() {
        PromiseDepot d = shelf(0, 40).then(lot(0, 20, 9)).then(d2 -> d2.split(0, 6)).then(d2 -> d2.mix(0, 1)).depot();
        for (int lot = 0; lot < 3; lot++) {
            Check.due(lot + " from itself", d.descendsFrom(lot, lot), false);
        }
        descendants("split and mixed", d, 2, 1, 0);
    }

    private static void descendantsAfterAllAreGone() {
        PromiseDepot d = shelf(0, 40).then(lot(0, 20, 9)).then(d2 -> d2.split(0, 6)).then(d2 -> d2.split(1, 3)).depot();
        d.recall(1);
        d.compost();
        d.compost();
        d.ship(0, 14);
        descendants("gone", d, 2, 1, 0);
        Check.due("still", d.descendsFrom(2, 0), true);
        Check.due("nothing to recall", d.recallSize(0), 0);
    }

    private static void descentOfTwenty() {
        Story chain = shelf(0, 40).then(lot(0, 20, 9));
        for (int lot = 0; lot < 19; lot++) {
            int last = lot;
            chain = chain.then(d -> d.split(last, 19 - last)).then(d -> d.recall(last)).then(PromiseDepot::undo).then(d -> d.ship(0, 1));
        }
        int[] due = new int[20];
        for (int lot = 0; lot < 20; lot++) {
            due[lot] = 19 - lot;
        }
        descendants("a chain of twenty", chain.depot(), due);
        Check.due("the last from the first", chain.depot().descendsFrom(19, 0), true);
        Check.due("the last from the last but one", chain.depot().descendsFrom(19, 18), true);
        Check.due("recalled by way of 19 that are gone", chain.depot().recall(0), 1);
        Check.due("it is the last", chain.then(d -> d.recall(0)).depot().nextCompost(), 19);
        PromiseDepot d = ends().depot();
        descendants("the first and the last in one pair", d, 1, 0, 0, 0, 0, 0, 0, 0, 0, 0, 0, 0, 0, 0, 0, 0, 0, 0, 1, 0);
        Check.due("its line", Check.lineOf(d, 19), "19k0z0v6e9@0<18<0");
    }

    /** Twenty lots, of which the last is mixed from the first and the last but one, the others being strangers. */
    private static Story ends() {
        return shelf(0, 40).then(lot(0, 3, 9)).then(d -> {
            while (d.lotCount() < 18) {
                d.receive(1, 2, 0, 9);
                d.ship(1, 2);
            }
            d.receive(0, 3, 0, 9);
            d.mix(18, 0);
        });
    }

    private static void byExpiry(String what, Story story, int... lots) {
        PromiseDepot d = story.depot();
        for (int rank = 0; rank < lots.length; rank++) {
            Check.due(what + ", rank " + rank, d.lotByExpiry(rank), lots[rank]);
        }
        Refusal.thrown(what + ", no more ranks", story, NONE, e -> e.lotByExpiry(lots.length));
    }

    private static void lotsByExpiryAndNumber() {
        Story falling = shelf(0, 40);
        Story equal = shelf(0, 40);
        for (int lot = 0; lot < 8; lot++) {
            falling = falling.then(lot(lot % 6, 2, 7 - lot));
            equal = equal.then(lot(lot % 6, 2, 7));
        }
        byExpiry("each earlier", falling, 7, 6, 5, 4, 3, 2, 1, 0);
        byExpiry("all on one day", equal, 0, 1, 2, 3, 4, 5, 6, 7);
        byExpiry("expired ones too", falling.then(d -> d.pass(5)), 7, 6, 5, 4, 3, 2, 1, 0);
        byExpiry("not the recalled", falling.then(d -> d.recall(7)).then(d -> d.recall(3)), 6, 5, 4, 2, 1, 0);
        byExpiry("not the shipped", equal.then(d -> d.ship(0, 3)), 1, 2, 3, 4, 5, 6, 7);
        byExpiry("a later lot with an earlier day", equal.then(d -> d.ship(0, 4)).then(lot(0, 1, 6)).then(lot(0, 1, 7)), 8, 1, 2, 3, 4, 5, 7, 9);
        byExpiry("in all zones", shelf(0, 5).then(shelf(1, 5)).then(lot(0, 5, 3)).then(d -> d.receive(0, 5, 1, 2)), 1, 0);
        byExpiry("none", shelf(0, 40));
    }

    private static void shippedFromTheLowestExpiryFirst() {
        Story three = shelf(0, 40).then(lot(0, 5, 9)).then(lot(0, 5, 7)).then(lot(0, 5, 8));
        PromiseDepot d = three.depot();
        int[] due = {1, 2, 0};
        for (int i = 0; i < 3; i++) {
            Check.due("first to ship", d.firstToShip(0), due[i]);
            Check.due("four", d.ship(0, 4), 1);
            Check.due("one is left in it", d.volumeOf(due[i]), 1);
            Check.due("still first", d.firstToShip(0), due[i]);
            Check.due("the one", d.ship(0, 1), 1);
            Check.due("gone", d.isOnShelf(due[i]), false);
        }
        Refusal.denied("nothing is left", three.then(e -> e.ship(0, 15)), 6, 0, e -> e.ship(0, 1));
    }

    private static void shippedFromTheLowestNumberOfEqualExpiries() {
        PromiseDepot d = shelf(0, 40).then(lot(0, 5, 7)).then(lot(0, 6, 7)).then(lot(0, 4, 7)).depot();
        Check.due("first to ship", d.firstToShip(0), 0);
        Check.due("six", d.ship(0, 6), 2);
        Check.due("volumes", d.volumeOf(0) * 100 + d.volumeOf(1) * 10 + d.volumeOf(2), 54);
        Check.due("first to ship then", d.firstToShip(0), 1);
        PromiseDepot e = shelf(0, 40).then(lot(0, 5, 7)).then(d2 -> d2.pass(3)).then(lot(0, 5, 4)).depot();
        Check.due("equal by another count of days", e.firstToShip(0), 0);
        PromiseDepot f = shelf(0, 40).then(lot(0, 9, 7)).then(d2 -> d2.split(0, 4)).depot();
        Check.due("a part expires as its parent does", f.firstToShip(0), 0);
        Check.due("in both", f.ship(0, 6), 2);
        Check.due("the part has the rest", f.volumeOf(1), 3);
    }

    private static void shippedWholeOrInPart() {
        Story three = shelf(0, 40).then(lot(0, 5, 1)).then(lot(0, 6, 2)).then(lot(0, 4, 3));
        int[] lots = {0, 1, 1, 1, 1, 1, 2, 2, 2, 2, 2, 2, 3, 3, 3, 3};
        for (int volume = 1; volume <= 15; volume++) {
            PromiseDepot d = three.depot();
            Check.due("lots for " + volume, d.ship(0, volume), lots[volume]);
            Check.due("stored", d.stored(), 15 - volume);
            Check.due("shipped", d.shipped(), volume);
            Check.due("first is gone", !d.isOnShelf(0), volume >= 5);
            Check.due("second is gone", !d.isOnShelf(1), volume >= 11);
            Check.due("third is gone", !d.isOnShelf(2), volume == 15);
            Check.due("first", d.volumeOf(0), Math.max(0, 5 - volume));
            Check.due("second", d.volumeOf(1), Math.min(6, Math.max(0, 11 - volume)));
            Check.due("third", d.volumeOf(2), Math.min(4, 15 - volume));
        }
    }

    private static void notShippedFromOthers() {
        Story five = shelf(0, 40).then(shelf(1, 40)).then(lot(0, 5, 0)).then(lot(0, 6, 1)).then(lot(1, 7, 1)).then(lot(0, 8, 1))
                .then(d -> d.receive(0, 3, 1, 1)).then(d -> d.recall(3)).then(d -> d.pass(1));
        Check.due("not expired, not on the heap, of the kind, in any zone", five.depot().available(0), 9);
        Refusal.denied("one more", five, 6, 9, d -> d.ship(0, 10));
        PromiseDepot d = five.depot();
        Check.due("all", d.ship(0, 9), 2);
        Check.due("expired", d.volumeOf(0), 5);
        Check.due("of another kind", d.volumeOf(2), 7);
        Check.due("on the heap", d.volumeOf(3), 8);
        Check.due("in zone 1", d.volumeOf(4), 0);
        Refusal.denied("expired today", five.then(e -> e.pass(1)), 6, 0, e -> e.ship(0, 1));
    }

    private static void allThatThereIsAndOneMore() {
        Story two = shelf(0, 40).then(shelf(0, 40)).then(lot(4, 40, 1)).then(lot(4, 40, 1));
        Refusal.denied("81 of 80", two, 6, 80, d -> d.ship(4, 81));
        Refusal.denied("99 of 80", two, 6, 80, d -> d.ship(4, 99));
        Check.due("80 of 80", two.depot().ship(4, 80), 2);
        Check.due("79 of 80", two.depot().ship(4, 79), 2);
        Story eight = shelf(0, 40);
        for (int lot = 0; lot < 8; lot++) {
            eight = eight.then(lot(4, 5, 8 - lot));
        }
        Check.due("40 of eight lots", eight.depot().ship(4, 40), 8);
        Check.due("36 of eight lots", eight.depot().ship(4, 36), 8);
        Check.due("35 of eight lots", eight.depot().ship(4, 35), 7);
        Refusal.denied("41 of 40", eight, 6, 40, d -> d.ship(4, 41));
    }

    private static void recalled(String what, Story story, int lot, int due) {
        Check.due(what + ", recallSize", story.depot().recallSize(lot), due);
        PromiseDepot d = story.depot();
        int before = d.heapSize();
        int undoCount = d.undoCount();
        Check.due(what, d.recall(lot), due);
        Check.due(what + ", heap", d.heapSize(), before + due);
        Check.due(what + ", is a change", d.undoCount(), Math.min(8, undoCount + 1));
        Check.due(what + ", once more", d.recall(lot), 0);
        Check.due(what + ", recallSize afterwards", d.recallSize(lot), 0);
    }

    private static void recallsOfLotsOnShelves() {
        Story one = shelf(0, 40).then(lot(0, 9, 1));
        recalled("alone", one, 0, 1);
        recalled("expired", one.then(d -> d.pass(2)), 0, 1);
        recalled("with a part", one.then(d -> d.split(0, 4)), 0, 2);
        recalled("with a part on another shelf", one.then(shelf(0, 9)).then(d -> d.split(0, 4)).then(d -> d.move(1, 1)), 0, 2);
        recalled("with a part of a part that is shipped", one.then(d -> d.split(0, 4)).then(d -> d.split(1, 2)).then(d -> d.ship(0, 7)), 0, 1);
        PromiseDepot d = one.then(d2 -> d2.split(0, 4)).then(d2 -> d2.recall(0)).depot();
        Check.due("they keep their volumes", d.volumeOf(0) * 10 + d.volumeOf(1), 54);
        Check.due("heaped", d.heaped(), 9);
        Check.due("room", d.roomOf(0), 40);
        Check.due("places", Check.lineOf(d, 0) + " " + Check.lineOf(d, 1), "0k0z0v5e1h 1k0z0v4e1h<0");
    }

    private static void recallsOfLotsOnTheHeap() {
        Story heap = shelf(0, 40).then(lot(0, 9, 1)).then(d -> d.split(0, 4));
        recalled("a part that is on the heap", heap.then(d -> d.recall(1)), 1, 0);
        recalled("the lot, whose part is on the heap already", heap.then(d -> d.recall(1)), 0, 1);
        PromiseDepot d = heap.then(d2 -> d2.recall(1)).then(d2 -> d2.recall(0)).depot();
        Check.due("no lot is there twice", d.heapSize(), 2);
        Check.due("first", d.compost(), 5);
        Check.due("second", d.compost(), 4);
        Check.throwing("no third", NONE, d::nextCompost);
        Story all = heap.then(d2 -> d2.recall(0));
        recalled("the lot, and all of them are on the heap", all, 0, 0);
    }

    private static void recallsOfLotsThatAreGone() {
        Story mixed = shelf(0, 40).then(lot(0, 9, 1)).then(lot(0, 8, 2)).then(d -> d.mix(0, 1));
        recalled("mixed, first", mixed, 0, 1);
        recalled("mixed, second", mixed, 1, 1);
        recalled("mixed, and the mixture was split", mixed.then(d -> d.split(2, 3)), 1, 2);
        recalled("mixed, and the mixture is on the heap", mixed.then(d -> d.recall(2)), 0, 0);
        recalled("mixed, and the mixture is expired", mixed.then(d -> d.pass(2)), 0, 1);
        Story shipped = shelf(0, 40).then(lot(0, 9, 1)).then(d -> d.split(0, 4)).then(d -> d.ship(0, 5));
        recalled("shipped, a part on a shelf", shipped, 0, 1);
        recalled("shipped, the part too", shipped.then(d -> d.ship(0, 4)), 0, 0);
        Story composted = shelf(0, 40).then(lot(0, 9, 1)).then(d -> d.recall(0)).then(PromiseDepot::compost);
        recalled("composted", composted, 0, 0);
        PromiseDepot d = composted.depot();
        d.recall(0);
        Check.due("it stays gone", Check.lineOf(d, 0), "0k0z0v0e1-");
        Refusal.denied("and nothing comes to the heap", composted.then(d2 -> d2.recall(0)), 7, 0, PromiseDepot::compost);
    }

    private static void recallsBringNoAncestorsAndNoStrangers() {
        Story family = shelf(0, 40).then(lot(0, 9, 1)).then(d -> d.split(0, 4)).then(d -> d.split(0, 2)).then(d -> d.split(1, 1)).then(lot(0, 3, 1));
        recalled("a part: itself and its part", family, 1, 2);
        recalled("the last part", family, 3, 1);
        recalled("another part", family, 2, 1);
        recalled("the stranger", family, 4, 1);
        recalled("all but the stranger", family, 0, 4);
        PromiseDepot d = family.then(d2 -> d2.recall(1)).depot();
        Check.due("on shelves", d.isOnShelf(0) && d.isOnShelf(2) && d.isOnShelf(4), true);
        Check.due("on the heap", d.isOnShelf(1) || d.isOnShelf(3), false);
    }

    private static void recallsOfEight() {
        Story eight = shelf(0, 40).then(lot(0, 9, 1));
        for (int i = 0; i < 7; i++) {
            eight = eight.then(d -> d.split(0, 1));
        }
        recalled("eight at a time", eight, 0, 8);
    }

    private static Story heap(int[]... volumesAndDays) {
        return d -> {
            d.addShelf(0, 40);
            for (int[] pair : volumesAndDays) {
                d.recall(d.receive(0, pair[0], 0, pair[1]));
            }
        };
    }

    private static void composted(String what, Story story, int... lots) {
        PromiseDepot d = story.depot();
        for (int lot : lots) {
            int volume = d.volumeOf(lot);
            Check.due(what + ", next", d.nextCompost(), lot);
            Check.due(what + ", next by scan", d.nextCompostByScan(), lot);
            Check.due(what + ", volume", d.compost(), volume);
            Check.due(what + ", gone", d.volumeOf(lot), 0);
        }
        Check.throwing(what + ", and no more", NONE, d::nextCompost);
        Check.throwing(what + ", and no more by scan", NONE, d::nextCompostByScan);
        Check.denied(what + ", no more to compost", d, 7, 0, d::compost);
    }

    private static void compostedByVolumeExpiryAndNumber() {
        composted("the greatest volume, though it expires last", heap(new int[] {5, 1}, new int[] {6, 9}, new int[] {4, 0}), 1, 0, 2);
        composted("equal volumes: the lower expiry", heap(new int[] {5, 7}, new int[] {5, 8}, new int[] {5, 6}), 2, 0, 1);
        composted("equal volumes and expiries: the lower number", heap(new int[] {5, 7}, new int[] {5, 7}, new int[] {5, 7}, new int[] {5, 7}), 0, 1, 2, 3);
        composted("all three rules", heap(new int[] {3, 2}, new int[] {4, 9}, new int[] {3, 2}, new int[] {3, 1}, new int[] {4, 9}), 1, 4, 3, 0, 2);
        Story late = heap(new int[] {5, 2}, new int[] {5, 1}).then(d -> d.pass(50));
        composted("expired or not", late.then(d -> d.recall(d.receive(0, 5, 0, 0))), 1, 0, 2);
        Story later = shelf(0, 40).then(lot(0, 5, 3)).then(lot(0, 5, 3)).then(d -> d.recall(1)).then(d -> d.recall(0));
        composted("the lower number, though it came later", later, 0, 1);
    }

    private static void compostedByTheVolumeThatIsLeft() {
        Story parts = shelf(0, 40).then(lot(0, 9, 1)).then(lot(0, 8, 2)).then(d -> d.ship(0, 2)).then(d -> d.recall(0)).then(d -> d.recall(1));
        composted("7 of 9 are left", parts, 1, 0);
        Story split = shelf(0, 40).then(lot(0, 9, 1)).then(d -> d.split(0, 5)).then(d -> d.recall(0));
        composted("the part is greater", split, 1, 0);
    }

    private static void heapOfTwenty() {
        int[][] rising = new int[20][];
        int[][] equal = new int[20][];
        int[] fromLast = new int[20];
        int[] fromFirst = new int[20];
        for (int i = 0; i < 20; i++) {
            rising[i] = new int[] {i + 1, 5};
            equal[i] = new int[] {7, 5};
            fromLast[i] = 19 - i;
            fromFirst[i] = i;
        }
        composted("twenty, each greater", heap(rising), fromLast);
        composted("twenty alike", heap(equal), fromFirst);
        Check.due("size", heap(equal).depot().heapSize(), 20);
        Check.due("volume", heap(equal).depot().heaped(), 140);
        Refusal.denied("no 21st lot", heap(equal), 1, 20, d -> d.receive(0, 1, 0, 0));
    }

    private static void heapOfEightInEveryOrder() {
        inEveryOrder(new int[8], 0, new boolean[8]);
    }

    /** Recalls eight lots of 1 to 8 in every order, and composts them. */
    private static void inEveryOrder(int[] order, int chosen, boolean[] taken) {
        if (chosen == order.length) {
            PromiseDepot d = shelf(0, 40).depot();
            for (int lot = 0; lot < order.length; lot++) {
                d.receive(0, lot + 1, 0, 0);
            }
            for (int lot : order) {
                d.recall(lot);
            }
            for (int left = order.length; left > 0; left--) {
                Check.due("next", d.nextCompost(), left - 1);
                Check.due("volume", d.compost(), left);
            }
        }
        for (int lot = 0; lot < order.length; lot++) {
            if (!taken[lot]) {
                taken[lot] = true;
                order[chosen] = lot;
                inEveryOrder(order, chosen + 1, taken);
                taken[lot] = false;
            }
        }
    }

    /** Twenty lots come to the heap, each by some steps further in volume and expiry, and some are composted between. */
    private static void heapThatGrowsAndShrinks() {
        for (int step = 1; step < 40; step++) {
            for (int between = 0; between < 4; between++) {
                PromiseDepot d = shelf(0, 40).then(shelf(0, 40)).depot();
                for (int lot = 0; lot < 20; lot++) {
                    d.recall(d.receive(0, 1 + lot * step % 37 % 12, 0, lot * step % 41 % 5));
                    if (lot % 5 >= 5 - between) {
                        theGreatestIsNext(d);
                    }
                }
                while (d.heapSize() > 0) {
                    theGreatestIsNext(d);
                }
            }
        }
    }

    private static void theGreatestIsNext(PromiseDepot d) {
        int best = d.nextCompostByScan();
        Check.due("next as by scan", d.nextCompost(), best);
        int volume = d.volumeOf(best);
        Check.due("volume", d.compost(), volume);
        Check.due("it is gone", d.volumeOf(best), 0);
    }

    /** Cell n of a heap is above the cells 2n + 1 and 2n + 2 alone: what is below other cells must not move there. */
    private static void heapOfWhichOneSideIsGreater() {
        int[][] volumes = {{40, 39, 38, 20, 30, 37, 19, 18, 17, 10, 9, 36, 1}, {40, 39, 38, 20, 30, 19, 37, 10, 9, 8, 7, 6, 5, 36, 1}};
        for (int[] some : volumes) {
            int[][] lots = new int[some.length][];
            for (int lot = 0; lot < lots.length; lot++) {
                lots[lot] = new int[] {some[lot], 0};
            }
            PromiseDepot d = heap(lots).depot();
            for (int left = lots.length; left > 0; left--) {
                theGreatestIsNext(d);
            }
        }
    }

    private static void order(String what, Story story, int... shelves) {
        PromiseDepot d = story.depot();
        for (int rank = 0; rank < shelves.length; rank++) {
            Check.due(what + ", rank " + rank, d.shelfToCount(rank), shelves[rank]);
        }
        Refusal.thrown(what + ", no more ranks", story, NONE, e -> e.shelfToCount(shelves.length));
    }

    private static Story count(int shelf) {
        return d -> d.count(shelf);
    }

    private static void countedNeverFirst() {
        Story three = shelf(0, 10).then(shelf(0, 9)).then(shelf(0, 8)).then(lot(0, 9, 9)).then(d -> d.split(0, 1));
        order("never counted: more lots, then the index", three, 1, 0, 2);
        order("counted today: behind those without lots", three.then(count(1)), 0, 2, 1);
        order("counted on day 0 is counted", three.then(count(0)), 1, 2, 0);
        order("long ago is behind never", three.then(count(0)).then(d -> d.pass(99)), 1, 2, 0);
        order("all counted on the same day", three.then(count(2)).then(count(0)).then(count(1)), 1, 0, 2);
        order("a shelf that comes later was never counted", three.then(count(2)).then(count(0)).then(count(1)).then(shelf(0, 5)), 3, 1, 0, 2);
    }

    private static void countedOnEarlierDaysFirst() {
        Story three = shelf(0, 10).then(shelf(0, 9)).then(shelf(0, 8)).then(lot(0, 8, 9));
        Story days = three.then(count(2)).then(d -> d.pass(1)).then(count(0)).then(d -> d.pass(1)).then(count(1));
        order("by day", days, 2, 0, 1);
        order("a day later", days.then(d -> d.pass(1)), 2, 0, 1);
        order("the first counted again", days.then(d -> d.pass(1)).then(count(2)), 0, 1, 2);
        order("counted again on the day of the last: more lots first", days.then(count(2)), 0, 2, 1);
    }

    private static void countedWithMoreLotsFirst() {
        Story three = shelf(0, 10).then(shelf(0, 9)).then(shelf(0, 8)).then(d -> {
            d.count(0);
            d.count(1);
            d.count(2);
        });
        order("none has lots", three, 0, 1, 2);
        Story lots = three.then(lot(0, 8, 0)).then(d -> d.split(0, 1)).then(lot(0, 9, 0));
        order("two, one and none, after they were counted", lots, 2, 1, 0);
        order("expired lots are lots", lots.then(d -> d.pass(1)), 2, 1, 0);
        order("recalled ones are not", lots.then(d -> d.recall(0)), 1, 0, 2);
        order("greater volume is nothing", three.then(lot(0, 8, 0)).then(lot(0, 9, 0)), 1, 2, 0);
    }

    private static void countedOfEight() {
        Story eight = d -> {
            for (int i = 0; i < 8; i++) {
                d.addShelf(i % 3, 5);
            }
        };
        order("eight", eight, 0, 1, 2, 3, 4, 5, 6, 7);
        order("eight, the first counted", eight.then(count(0)), 1, 2, 3, 4, 5, 6, 7, 0);
        order("none", Stories.NEW);
    }

    private static void daysAndLotsThatExpire() {
        Story five = shelf(0, 40).then(lot(0, 2, 0)).then(lot(0, 2, 1)).then(lot(0, 2, 1)).then(lot(0, 2, 2)).then(lot(0, 2, 99));
        int[] due = {0, 1, 3, 4, 4};
        for (int days = 1; days <= 4; days++) {
            int one = days;
            Check.due("in " + days + " days", five.depot().pass(days), due[days]);
            Check.due("afterwards", five.then(d -> d.pass(one)).depot().pass(1), Math.min(4, due[Math.min(4, days + 1)]) - due[days]);
        }
        Check.due("in 99 days", five.depot().pass(99), 4);
        Check.due("in 100 days", five.then(d -> d.pass(99)).depot().pass(1), 1);
        Check.due("not on shelves: on the heap", five.then(d -> d.recall(0)).depot().pass(1), 0);
        Check.due("not on shelves: gone", five.then(d -> d.ship(0, 2)).depot().pass(1), 0);
        Check.due("days", five.then(d -> d.pass(99)).then(d -> d.pass(1)).depot().day(), 100);
        Check.due("no lots", new PromiseDepot().pass(99), 0);
    }

    private static void meansAndShares() {
        Story none = shelf(0, 40);
        Refusal.thrown("mean of none", none, ArithmeticException.class, PromiseDepot::meanVolume);
        Refusal.thrown("share of none", none, ArithmeticException.class, PromiseDepot::expiredShare);
        Refusal.thrown("mean of none but on the heap", none.then(lot(0, 3, 0)).then(d -> d.recall(0)), ArithmeticException.class, PromiseDepot::meanVolume);
        Refusal.thrown("share of none but gone", none.then(lot(0, 3, 0)).then(d -> d.ship(0, 3)), ArithmeticException.class, PromiseDepot::expiredShare);
        Check.due("mean of one", none.then(lot(0, 3, 0)).depot().meanVolume(), 3.0);
        Check.due("share of one", none.then(lot(0, 3, 0)).depot().expiredShare(), 0f);
        Check.due("share of one that is expired", none.then(lot(0, 3, 0)).then(d -> d.pass(1)).depot().expiredShare(), 1f);
        Story eight = none;
        for (int lot = 0; lot < 8; lot++) {
            eight = eight.then(lot(0, lot < 7 ? 5 : 4, lot));
        }
        Check.due("mean of eight", eight.depot().meanVolume(), 39.0 / 8.0);
        for (int day = 1; day <= 8; day++) {
            int days = day;
            Check.due("share on day " + day, eight.then(d -> d.pass(days)).depot().expiredShare(), (float) day / 8f);
        }
        Story three = none.then(lot(0, 3, 0)).then(lot(0, 3, 9)).then(lot(0, 5, 9)).then(d -> d.pass(1));
        Check.due("mean of three, in doubles", three.depot().meanVolume(), 11.0 / 3.0);
        Check.due("share of three, in floats", three.depot().expiredShare(), 1.0f / 3.0f);
    }

    private static void accountsAlwaysAddUp() {
        PromiseDepot d = new PromiseDepot();
        Story[] changes = {shelf(0, 40), lot(0, 20, 3), e -> e.split(0, 7), e -> e.move(1, 0), e -> e.ship(0, 3), lot(0, 9, 1), e -> e.mix(1, 2),
            e -> e.recall(0), PromiseDepot::compost, e -> e.pass(2), e -> e.recall(3), e -> e.count(0), PromiseDepot::compost, PromiseDepot::undo,
            e -> Check.run(e, "receive 0 8 0+9;ship 0 2")};
        int[] received = {0, 20, 20, 20, 20, 29, 29, 29, 29, 29, 29, 29, 29, 29, 37};
        for (int i = 0; i < changes.length; i++) {
            changes[i].tell(d);
            Check.due("received after change " + i, d.received(), received[i]);
            Check.due("sum after change " + i, d.stored() + d.heaped() + d.shipped() + d.composted(), received[i]);
        }
        Check.due("shipped", d.shipped(), 5);
        Check.due("composted", d.composted(), 16);
        Check.due("heaped", d.heaped(), 10);
        Check.due("stored", d.stored(), 6);
    }
}
