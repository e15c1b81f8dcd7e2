import java.util.NoSuchElementException;

/** Promises 13 to 32: lots. */
public final class LotTest {
    private static final int[] NO_LOTS = {-1, 3, 20, Integer.MIN_VALUE, Integer.MAX_VALUE};

    public static void main(String[] args) {
        promise13Receive();
        promise13Limits();
        promise14Split();
        promise14Order();
        promise15Mix();
        promise15Denials();
        promise15PlacedAfterBothHaveLeft();
        promise16Move();
        promise17Ship();
        promise18Recall();
        promises19To25Queries();
        promises26To28Descent();
        promises29To31RecallSizeAndShipping();
        promise32LotByExpiry();
        expiredLotsStay();
        Check.finish("LotTest");
    }

    private static void promise13Receive() {
        PromiseDepot d = new PromiseDepot();
        d.addShelf(0, 10);
        int[][] bad = {{-1, 5, 0, 1}, {6, 5, 0, 1}, {0, 0, 0, 1}, {0, 41, 0, 1}, {0, 5, -1, 1}, {0, 5, 3, 1}, {0, 5, 0, -1}, {0, 5, 0, 100}};
        for (int[] p : bad) {
            Check.throwing("receive " + java.util.Arrays.toString(p), IllegalArgumentException.class, () -> d.receive(p[0], p[1], p[2], p[3]));
        }
        Check.denied("too great", d, 2, 11, () -> d.receive(0, 11, 0, 1));
        Check.denied("no shelf in zone", d, 2, 1, () -> d.receive(0, 1, 1, 1));
        Check.throwing("bad before denied", IllegalArgumentException.class, () -> d.receive(0, 40, 0, 100));
        Check.due("nothing came", d.lotCount(), 0);
        d.pass(3);
        Check.due("number", d.receive(5, 10, 0, 99), 0);
        Check.due("expiry", d.expiryOf(0), 102);
        Check.due("line", Check.lineOf(d, 0), "0k5z0v10e102@0");
        Check.due("received", d.received(), 10);
        Check.denied("full", d, 2, 1, () -> d.receive(0, 1, 0, 0));
    }

    private static void promise13Limits() {
        PromiseDepot d = new PromiseDepot();
        d.addShelf(0, 40);
        for (int i = 0; i < 8; i++) {
            Check.due("lot " + i, d.receive(0, 5, 0, 0), i);
        }
        Check.denied("8 lots before no room", d, 1, 8, () -> d.receive(0, 1, 0, 0));
        Check.denied("8 lots, other zone", d, 1, 8, () -> d.receive(0, 1, 2, 0));
        d.ship(0, 40);
        for (int i = 8; i < 20; i++) {
            d.receive(0, 5, 0, 0);
            if (i < 19) {
                d.recall(i - i % 2);
            }
        }
        Check.due("twenty", d.lotCount(), 20);
        Check.denied("20 lots before no room", d, 1, 20, () -> d.receive(0, 40, 1, 0));
        Check.throwing("bad before 20 lots", IllegalArgumentException.class, () -> d.receive(6, 40, 1, 0));
    }

    private static void promise14Split() {
        PromiseDepot d = new PromiseDepot();
        d.addShelf(1, 20);
        d.addShelf(1, 5);
        d.receive(3, 15, 1, 4);
        Check.throwing("no lot 1", NoSuchElementException.class, () -> d.split(1, 0));
        Check.throwing("no lot -1", NoSuchElementException.class, () -> d.split(-1, 3));
        Check.throwing("volume 0", IllegalArgumentException.class, () -> d.split(0, 0));
        Check.throwing("volume 41", IllegalArgumentException.class, () -> d.split(0, 41));
        Check.denied("all of it", d, 6, 15, () -> d.split(0, 15));
        Check.denied("more than all", d, 6, 15, () -> d.split(0, 40));
        d.pass(2);
        Check.due("number", d.split(0, 14), 1);
        Check.due("whole", Check.lineOf(d, 0), "0k3z1v1e4@0");
        Check.due("part", Check.lineOf(d, 1), "1k3z1v14e4@0<0");
        Check.due("room as before", d.roomOf(0), 5);
        Check.due("received as before", d.received(), 15);
        d.move(1, 0);
        d.split(1, 1);
        Check.due("part of a part", Check.lineOf(d, 2), "2k3z1v1e4@0<1");
    }

    private static void promise14Order() {
        PromiseDepot d = new PromiseDepot();
        d.addShelf(0, 40);
        d.receive(0, 10, 0, 0);
        d.receive(1, 10, 0, 5);
        d.pass(1);
        Check.denied("expired before too little", d, 3, 0, () -> d.split(0, 10));
        d.recall(0);
        Check.denied("on the heap, expired", d, 5, 0, () -> d.split(0, 1));
        Check.throwing("bad before not on a shelf", IllegalArgumentException.class, () -> d.split(0, 41));
        d.compost();
        Check.denied("gone", d, 5, 0, () -> d.split(0, 1));
        for (int i = 0; i < 7; i++) {
            d.split(1, 1);
        }
        Check.denied("8 lots on shelves", d, 1, 8, () -> d.split(1, 2));
        Check.denied("too little before 8 lots", d, 6, 3, () -> d.split(1, 3));
        d.recall(2);
        for (int i = 9; i < 20; i++) {
            d.receive(2, 1, 0, 50);
            d.ship(2, 1);
        }
        Check.due("twenty", d.lotCount(), 20);
        Check.denied("20 lots", d, 1, 20, () -> d.split(1, 1));
        Check.denied("too little before 20 lots", d, 6, 3, () -> d.split(1, 40));
        PromiseDepot e = new PromiseDepot();
        Check.due("fill", fillWithTwentyAndEight(e), 8);
        Check.denied("20 lots before 8", e, 1, 20, () -> e.split(19, 1));
    }

    private static int fillWithTwentyAndEight(PromiseDepot d) {
        d.addShelf(0, 40);
        for (int i = 0; i < 20; i++) {
            if (i == 8 || i == 16) {
                d.ship(0, i == 8 ? 16 : 8);
            }
            d.receive(0, 2, 0, 9);
        }
        return d.lotsOn(0);
    }

    private static void promise15Mix() {
        PromiseDepot d = new PromiseDepot();
        d.addShelf(0, 20);
        d.addShelf(0, 9);
        d.receive(2, 4, 0, 8);
        d.receive(2, 5, 0, 3);
        Check.due("number", d.mix(1, 0), 2);
        Check.due("mixture", Check.lineOf(d, 2), "2k2z0v9e3@1<1<0");
        Check.due("first", Check.lineOf(d, 1), "1k2z0v0e3-");
        Check.due("second", Check.lineOf(d, 0), "0k2z0v0e8-");
        Check.due("parents", d.parentCount(2), 2);
        Check.due("one lot on shelves", d.lotsOn(1), 1);
        Check.due("received as before", d.received(), 9);
        Check.due("stored as before", d.stored(), 9);
        d.receive(2, 1, 0, 2);
        d.mix(2, 3);
        Check.due("earlier of both, the other way", d.expiryOf(4), 2);
        for (int lot : NO_LOTS) {
            if (lot != 3) {
                Check.throwing("mix 4 with " + lot, NoSuchElementException.class, () -> d.mix(4, lot));
                Check.throwing("mix " + lot + " with 4", NoSuchElementException.class, () -> d.mix(lot, 4));
                Check.throwing("mix of " + lot + " twice", NoSuchElementException.class, () -> d.mix(lot, lot));
            }
        }
        Check.throwing("both the same", IllegalArgumentException.class, () -> d.mix(4, 4));
        Check.throwing("both the same, gone", IllegalArgumentException.class, () -> d.mix(0, 0));
    }

    private static void promise15Denials() {
        PromiseDepot d = new PromiseDepot();
        d.addShelf(0, 30);
        d.addShelf(1, 30);
        d.receive(0, 5, 0, 1);
        d.receive(0, 5, 0, 9);
        d.receive(0, 5, 1, 9);
        d.receive(1, 5, 1, 9);
        d.receive(1, 5, 1, 1);
        d.receive(0, 5, 0, 9);
        d.recall(1);
        d.recall(5);
        Check.denied("first is not on a shelf", d, 5, 1, () -> d.mix(1, 0));
        Check.denied("second is not on a shelf", d, 5, 1, () -> d.mix(0, 1));
        Check.denied("neither is on a shelf", d, 5, 5, () -> d.mix(5, 1));
        Check.denied("zones differ", d, 4, 1, () -> d.mix(0, 2));
        Check.denied("zones differ, other order", d, 4, 0, () -> d.mix(2, 0));
        Check.denied("kinds differ", d, 4, 1, () -> d.mix(3, 2));
        d.pass(2);
        Check.denied("not on a shelf before expired", d, 5, 1, () -> d.mix(0, 1));
        Check.denied("first is expired", d, 3, 0, () -> d.mix(0, 2));
        Check.denied("second is expired", d, 3, 4, () -> d.mix(2, 4));
        Check.denied("both are expired", d, 3, 4, () -> d.mix(4, 0));
        Check.due("nothing came", d.lotCount(), 6);
        PromiseDepot e = new PromiseDepot();
        fillWithTwentyAndEight(e);
        Check.denied("20 lots", e, 1, 20, () -> e.mix(19, 18));
        PromiseDepot f = new PromiseDepot();
        f.addShelf(0, 40);
        for (int i = 0; i < 8; i++) {
            f.receive(0, 5, 0, 1);
        }
        Check.due("8 lots on shelves are no limit", f.mix(6, 7), 8);
        PromiseDepot g = fullOfTwoKinds();
        Check.denied("kinds before 20 lots", g, 4, 0, () -> g.mix(18, 19));
    }

    private static PromiseDepot fullOfTwoKinds() {
        PromiseDepot d = new PromiseDepot();
        d.addShelf(0, 40);
        for (int i = 0; i < 18; i++) {
            d.receive(0, 2, 0, 9);
            d.ship(0, 2);
        }
        d.receive(0, 2, 0, 9);
        d.receive(1, 2, 0, 9);
        return d;
    }

    private static void promise15PlacedAfterBothHaveLeft() {
        PromiseDepot d = new PromiseDepot();
        d.addShelf(0, 10);
        d.addShelf(0, 6);
        d.receive(0, 10, 0, 1);
        d.receive(0, 6, 0, 1);
        Check.denied("16 on no shelf", d, 2, 16, () -> d.mix(0, 1));
        PromiseDepot e = new PromiseDepot();
        e.addShelf(0, 10);
        e.receive(0, 6, 0, 1);
        e.receive(0, 4, 0, 1);
        Check.due("takes the place of both", e.mix(0, 1), 2);
        Check.due("shelf", e.shelfOf(2), 0);
        Check.due("room", e.roomOf(0), 0);
        PromiseDepot f = new PromiseDepot();
        f.addShelf(0, 12);
        f.addShelf(0, 11);
        f.receive(0, 5, 0, 1);
        f.receive(0, 5, 0, 1);
        Check.due("both on the shelf of 11", f.roomOf(1), 1);
        f.receive(0, 1, 0, 1);
        f.mix(0, 1);
        Check.due("10 is the least room then", f.shelfOf(3), 1);
        f.ship(0, 1);
        f.receive(0, 2, 0, 0);
        f.receive(1, 10, 0, 1);
        Check.due("lot 4 beside the mixture", f.shelfOf(4), 0);
    }

    private static void promise16Move() {
        PromiseDepot d = new PromiseDepot();
        d.addShelf(0, 10);
        d.addShelf(0, 12);
        d.addShelf(1, 40);
        d.receive(0, 10, 0, 1);
        d.receive(0, 2, 0, 9);
        Check.throwing("no lot", NoSuchElementException.class, () -> d.move(2, 9));
        Check.throwing("lot -1", NoSuchElementException.class, () -> d.move(-1, 0));
        Check.throwing("no shelf", IndexOutOfBoundsException.class, () -> d.move(0, 3));
        Check.throwing("shelf -1", IndexOutOfBoundsException.class, () -> d.move(0, -1));
        Check.denied("other zone", d, 4, 1, () -> d.move(0, 2));
        Check.due("to its own shelf", d.move(0, 0), 0);
        Check.due("undoCount", d.undoCount(), 6);
        Check.due("to another", d.move(0, 1), 0);
        Check.due("shelf", d.shelfOf(0), 1);
        Check.due("room left", d.roomOf(0), 10);
        PromiseDepot e = filledForMoves();
        Check.due("the second lot's shelf", e.shelfOf(1), 1);
        Check.denied("no room", e, 2, 6, () -> e.move(0, 1));
        d.pass(2);
        Check.denied("expired before zone", d, 3, 0, () -> d.move(0, 2));
        Check.denied("expired to its own shelf", d, 3, 0, () -> d.move(0, 1));
        d.recall(0);
        Check.denied("not on a shelf before expired", d, 5, 0, () -> d.move(0, 2));
        Check.throwing("no shelf before denied", IndexOutOfBoundsException.class, () -> d.move(0, 3));
    }

    private static PromiseDepot filledForMoves() {
        PromiseDepot e = new PromiseDepot();
        e.addShelf(0, 6);
        e.addShelf(0, 7);
        e.receive(0, 6, 0, 1);
        e.receive(0, 2, 0, 1);
        return e;
    }

    private static void promise17Ship() {
        PromiseDepot d = new PromiseDepot();
        d.addShelf(0, 40);
        d.addShelf(1, 40);
        d.receive(1, 4, 0, 5);
        d.receive(1, 5, 1, 2);
        d.receive(1, 6, 0, 2);
        d.receive(2, 7, 0, 0);
        d.receive(1, 3, 0, 0);
        int[][] bad = {{-1, 5}, {6, 5}, {0, 0}, {0, 100}, {0, -1}};
        for (int[] p : bad) {
            Check.throwing("ship " + p[0] + " " + p[1], IllegalArgumentException.class, () -> d.ship(p[0], p[1]));
        }
        Check.denied("nothing of the kind", d, 6, 0, () -> d.ship(0, 1));
        Check.denied("one too much", d, 6, 18, () -> d.ship(1, 19));
        d.pass(1);
        Check.denied("expired is not there", d, 6, 15, () -> d.ship(1, 99));
        Check.due("lots", d.ship(1, 6), 2);
        Check.due("lowest expiry, lowest number: all", d.volumeOf(1), 0);
        Check.due("gone", d.isOnShelf(1), false);
        Check.due("next of equal expiry: one", d.volumeOf(2), 5);
        Check.due("later: none", d.volumeOf(0), 4);
        Check.due("expired: none", d.volumeOf(4), 3);
        Check.due("other kind: none", d.volumeOf(3), 7);
        Check.due("shipped", d.shipped(), 6);
        Check.due("one lot, in part", d.ship(1, 4), 1);
        Check.due("all the rest", d.ship(1, 5), 2);
        Check.due("gone keeps its expiry", Check.lineOf(d, 0), "0k1z0v0e5-");
        Check.due("shipped in all", d.shipped(), 15);
    }

    private static void promise18Recall() {
        PromiseDepot d = new PromiseDepot();
        d.addShelf(0, 40);
        d.receive(0, 20, 0, 1);
        d.split(0, 8);
        d.split(1, 3);
        d.receive(0, 2, 0, 0);
        d.mix(2, 3);
        d.receive(1, 6, 0, 3);
        d.pass(1);
        Check.due("lot 3 is gone, lot 4 is its descendant", d.recallSize(3), 1);
        Check.due("recall 3", d.recall(3), 1);
        Check.due("expired, on the heap", Check.lineOf(d, 4), "4k0z0v5e0!h<2<3");
        Check.due("recall 0", d.recall(0), 2);
        Check.due("heap", d.heapSize(), 3);
        Check.due("heaped", d.heaped(), 22);
        Check.due("stored", d.stored(), 6);
        Check.due("not the other kind", d.isOnShelf(5), true);
        Check.due("again", d.recall(0), 0);
        Check.due("of one on the heap", d.recall(4), 0);
        Check.due("heap as before", d.heapSize(), 3);
        Check.throwing("shelf of one on the heap", NoSuchElementException.class, () -> d.shelfOf(0));
        Check.throwing("no lot", NoSuchElementException.class, () -> d.recall(6));
        Check.throwing("lot -1", NoSuchElementException.class, () -> d.recall(-1));
        Check.due("not the ancestors", notTheAncestors(), 1);
    }

    private static int notTheAncestors() {
        PromiseDepot d = new PromiseDepot();
        d.addShelf(0, 40);
        d.receive(0, 20, 0, 1);
        d.split(0, 8);
        d.split(0, 8);
        return d.recall(1);
    }

    private static void promises19To25Queries() {
        PromiseDepot d = new PromiseDepot();
        d.addShelf(0, 40);
        d.addShelf(0, 40);
        d.receive(0, 9, 0, 2);
        d.split(0, 4);
        d.mix(0, 1);
        Check.due("lotCount", d.lotCount(), 3);
        Check.due("isOnShelf 0", d.isOnShelf(0), false);
        Check.due("isOnShelf 2", d.isOnShelf(2), true);
        Check.due("shelfOf 2", d.shelfOf(2), 0);
        Check.throwing("shelfOf 0, gone", NoSuchElementException.class, () -> d.shelfOf(0));
        Check.due("volumeOf 0", d.volumeOf(0), 0);
        Check.due("volumeOf 2", d.volumeOf(2), 9);
        Check.due("expiryOf 0", d.expiryOf(0), 2);
        Check.due("parentCount 0", d.parentCount(0), 0);
        Check.due("parentCount 1", d.parentCount(1), 1);
        Check.due("parentCount 2", d.parentCount(2), 2);
        d.pass(2);
        Check.due("on the day of its expiry", d.isExpired(2), false);
        d.pass(1);
        Check.due("the day after", d.isExpired(2), true);
        Check.due("gone and expired", d.isExpired(0), true);
        for (int lot : NO_LOTS) {
            Check.throwing("isOnShelf", NoSuchElementException.class, () -> d.isOnShelf(lot));
            Check.throwing("shelfOf", NoSuchElementException.class, () -> d.shelfOf(lot));
            Check.throwing("volumeOf", NoSuchElementException.class, () -> d.volumeOf(lot));
            Check.throwing("expiryOf", NoSuchElementException.class, () -> d.expiryOf(lot));
            Check.throwing("isExpired", NoSuchElementException.class, () -> d.isExpired(lot));
            Check.throwing("parentCount", NoSuchElementException.class, () -> d.parentCount(lot));
            Check.throwing("descendants", NoSuchElementException.class, () -> d.descendants(lot));
            Check.throwing("descendantsByTable", NoSuchElementException.class, () -> d.descendantsByTable(lot));
            Check.throwing("descendsFrom", NoSuchElementException.class, () -> d.descendsFrom(lot, 0));
            Check.throwing("descendsFrom", NoSuchElementException.class, () -> d.descendsFrom(0, lot));
            Check.throwing("recallSize", NoSuchElementException.class, () -> d.recallSize(lot));
        }
    }

    private static void promises26To28Descent() {
        PromiseDepot d = new PromiseDepot();
        d.addShelf(0, 40);
        d.receive(0, 20, 0, 9);
        d.split(0, 5);
        d.split(0, 5);
        d.mix(1, 2);
        d.receive(0, 3, 0, 9);
        d.mix(4, 3);
        int[] due = {4, 2, 2, 1, 1, 0};
        for (int lot = 0; lot < 6; lot++) {
            Check.due("descendants " + lot, d.descendants(lot), due[lot]);
            Check.due("descendantsByTable " + lot, d.descendantsByTable(lot), due[lot]);
            Check.due("descendsFrom itself", d.descendsFrom(lot, lot), false);
        }
        Check.due("5 from 0", d.descendsFrom(5, 0), true);
        Check.due("5 from 4", d.descendsFrom(5, 4), true);
        Check.due("0 from 5", d.descendsFrom(0, 5), false);
        Check.due("4 from 0", d.descendsFrom(4, 0), false);
        Check.due("3 from 2", d.descendsFrom(3, 2), true);
        Check.due("2 from 1", d.descendsFrom(2, 1), false);
        chainOfTwenty();
    }

    private static void chainOfTwenty() {
        PromiseDepot d = new PromiseDepot();
        d.addShelf(0, 40);
        d.receive(0, 40, 0, 9);
        for (int lot = 0; lot < 19; lot++) {
            d.split(lot, 39 - lot);
            d.ship(0, 1);
        }
        Check.due("chain", d.descendants(0), 19);
        Check.due("chain by table", d.descendantsByTable(0), 19);
        Check.due("last from first", d.descendsFrom(19, 0), true);
        Check.due("recallSize of the first", d.recallSize(0), 1);
    }

    private static void promises29To31RecallSizeAndShipping() {
        PromiseDepot d = new PromiseDepot();
        d.addShelf(0, 40);
        d.receive(4, 9, 0, 3);
        d.receive(4, 5, 0, 1);
        d.split(0, 4);
        Check.due("recallSize", d.recallSize(0), 2);
        Check.due("recallSize of one", d.recallSize(1), 1);
        Check.due("available", d.available(4), 14);
        Check.due("available of another kind", d.available(5), 0);
        d.receive(0, 2, 0, 1);
        Check.due("available of kind 0", d.available(0), 2);
        Check.due("firstToShip of kind 0", d.firstToShip(0), 3);
        d.undo();
        Check.due("firstToShip", d.firstToShip(4), 1);
        d.pass(2);
        Check.due("available without the expired", d.available(4), 9);
        Check.due("firstToShip, equal expiries", d.firstToShip(4), 0);
        Check.throwing("firstToShip of none", NoSuchElementException.class, () -> d.firstToShip(5));
        d.recall(0);
        Check.due("recallSize on the heap", d.recallSize(0), 0);
        Check.due("available none", d.available(4), 0);
        Check.throwing("firstToShip, all expired", NoSuchElementException.class, () -> d.firstToShip(4));
        for (int kind : new int[] {-1, 6, Integer.MIN_VALUE}) {
            Check.throwing("available", IllegalArgumentException.class, () -> d.available(kind));
            Check.throwing("firstToShip", IllegalArgumentException.class, () -> d.firstToShip(kind));
        }
    }

    private static void promise32LotByExpiry() {
        PromiseDepot d = new PromiseDepot();
        Check.throwing("no lots", NoSuchElementException.class, () -> d.lotByExpiry(0));
        d.addShelf(0, 40);
        d.addShelf(1, 40);
        int[] days = {5, 3, 5, 0, 3};
        for (int i = 0; i < days.length; i++) {
            d.receive(i, 2, i % 2, days[i]);
        }
        d.pass(1);
        int[] due = {3, 1, 4, 0, 2};
        for (int rank = 0; rank < due.length; rank++) {
            Check.due("rank " + rank, d.lotByExpiry(rank), due[rank]);
        }
        d.recall(1);
        Check.due("rank 1 without lot 1", d.lotByExpiry(1), 4);
        Check.throwing("rank 4", NoSuchElementException.class, () -> d.lotByExpiry(4));
        Check.throwing("rank -1", NoSuchElementException.class, () -> d.lotByExpiry(-1));
    }

    private static void expiredLotsStay() {
        PromiseDepot d = new PromiseDepot();
        d.addShelf(0, 10);
        d.receive(0, 10, 0, 0);
        d.pass(99);
        Check.due("still there", d.shelfOf(0), 0);
        Check.due("takes its room", d.roomOf(0), 0);
        Check.due("stored", d.stored(), 10);
        Check.due("recall", d.recall(0), 1);
        Check.due("room", d.roomOf(0), 10);
    }
}
