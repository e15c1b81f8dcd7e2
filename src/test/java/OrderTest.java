import java.util.NoSuchElementException;

/**
 * Which exception comes first where the conditions of two hold, and which denial where those of two
 * hold, in the order in which each promise lists them; and nothing is changed by any of them.
 */
public final class OrderTest {
    private static final Class<IllegalArgumentException> ILLEGAL = IllegalArgumentException.class;
    private static final Class<IndexOutOfBoundsException> INDEX = IndexOutOfBoundsException.class;
    private static final Class<NoSuchElementException> NONE = NoSuchElementException.class;

    public static void main(String[] args) {
        promise2AddShelf();
        promises8And9Queries();
        promise13Receive();
        promise14ExceptionsOfSplit();
        promise14DenialsOfSplit();
        promise14LimitsOfSplit();
        promise15ExceptionsOfMix();
        promise15NotOnAShelf();
        promise15Expired();
        promise15Alike();
        promise16ExceptionsOfMove();
        promise16DenialsOfMove();
        promise17Ship();
        promise31FirstToShip();
        promise46And47Texts();
        Check.finish("OrderTest");
    }

    /** Twenty lots of which the last two or more are on shelves; the lots before are gone. */
    private static Story twenty(Story last) {
        return d -> {
            d.addShelf(0, 20);
            d.addShelf(1, 20);
            last.tell(d);
            while (d.lotCount() < 20) {
                d.receive(5, 1, 0, 0);
                d.ship(5, 1);
            }
        };
    }

    /** Eight lots of 2 on shelves, the first of them expiring today, of 12 + 8 that have come into being. */
    private static void eightOfTwenty(PromiseDepot d) {
        d.addShelf(0, 16);
        for (int lot = 0; lot < 12; lot++) {
            d.receive(5, 1, 0, 0);
            d.ship(5, 1);
        }
        for (int lot = 12; lot < 20; lot++) {
            d.receive(0, 2, 0, lot - 12);
        }
    }

    private static void eight(PromiseDepot d) {
        d.addShelf(0, 16);
        for (int lot = 0; lot < 8; lot++) {
            d.receive(0, 2, 0, lot);
        }
    }

    private static void promise2AddShelf() {
        Refusal.denied("limit", Stories.FULL, 1, 8, d -> d.addShelf(0, 5));
        Refusal.thrown("zone before limit", Stories.FULL, ILLEGAL, d -> d.addShelf(3, 5));
        Refusal.thrown("capacity before limit", Stories.FULL, ILLEGAL, d -> d.addShelf(0, 41));
        Refusal.thrown("both out of range", Stories.FULL, ILLEGAL, d -> d.addShelf(-1, 0));
    }

    private static void promises8And9Queries() {
        Refusal.thrown("no room", Stories.USED, NONE, d -> d.shelfFor(2, 40));
        Refusal.thrown("zone before no room", Stories.USED, ILLEGAL, d -> d.shelfFor(3, 40));
        Refusal.thrown("volume before no room", Stories.USED, ILLEGAL, d -> d.shelfFor(2, 41));
        Refusal.thrown("never counted", Stories.USED, NONE, d -> d.countedDay(2));
        Refusal.thrown("no such shelf before never counted", Stories.USED, INDEX, d -> d.countedDay(3));
    }

    private static void promise13Receive() {
        Refusal.denied("20 lots before 8 lots and room", Stories.FULL, 1, 20, d -> d.receive(0, 40, 1, 0));
        Refusal.denied("20 lots before 8 lots", Stories.FULL, 1, 20, d -> d.receive(0, 1, 0, 0));
        Story twenty = twenty(Stories.NEW);
        Refusal.denied("20 lots", twenty, 1, 20, d -> d.receive(0, 1, 0, 0));
        Refusal.denied("20 lots before room", twenty, 1, 20, d -> d.receive(0, 21, 0, 0));
        Refusal.denied("8 lots before room", OrderTest::eight, 1, 8, d -> d.receive(0, 1, 0, 0));
        for (Story story : new Story[] {Stories.FULL, twenty, OrderTest::eight, Stories.NEW}) {
            Refusal.thrown("kind first", story, ILLEGAL, d -> d.receive(6, 40, 1, 0));
            Refusal.thrown("volume first", story, ILLEGAL, d -> d.receive(0, 41, 1, 0));
            Refusal.thrown("zone first", story, ILLEGAL, d -> d.receive(0, 40, 3, 0));
            Refusal.thrown("days first", story, ILLEGAL, d -> d.receive(0, 40, 1, 100));
        }
    }

    private static void promise14ExceptionsOfSplit() {
        Refusal.thrown("no such lot before volume", Stories.USED, NONE, d -> d.split(7, 0));
        Refusal.thrown("no such lot before volume", Stories.USED, NONE, d -> d.split(-1, 41));
        Refusal.thrown("volume before on the heap", Stories.USED, ILLEGAL, d -> d.split(6, 0));
        Refusal.thrown("volume before gone", Stories.USED, ILLEGAL, d -> d.split(1, 41));
        Refusal.thrown("volume before expired", Stories.USED, ILLEGAL, d -> d.split(2, 0));
        Refusal.thrown("volume before too little", Stories.USED, ILLEGAL, d -> d.split(0, 41));
        Refusal.thrown("volume before 20 lots", Stories.FULL, ILLEGAL, d -> d.split(19, 0));
        Refusal.thrown("volume before 8 lots", OrderTest::eight, ILLEGAL, d -> d.split(7, 0));
    }

    private static void promise14DenialsOfSplit() {
        Story late = Stories.USED.then(d -> d.pass(50));
        Refusal.denied("on the heap before expired", late, 5, 6, d -> d.split(6, 1));
        Refusal.denied("gone before expired", late, 5, 1, d -> d.split(1, 1));
        Refusal.denied("on the heap before too little", Stories.USED, 5, 6, d -> d.split(6, 2));
        Refusal.denied("gone before too little", Stories.USED, 5, 1, d -> d.split(1, 40));
        Refusal.denied("expired before too little", Stories.USED, 3, 2, d -> d.split(2, 4));
        Refusal.denied("expired, enough", Stories.USED, 3, 2, d -> d.split(2, 3));
        Refusal.denied("too little", Stories.USED, 6, 5, d -> d.split(0, 5));
    }

    private static void promise14LimitsOfSplit() {
        Refusal.denied("gone before both limits", OrderTest::eightOfTwenty, 5, 0, d -> d.split(0, 1));
        Refusal.denied("too little before both limits", OrderTest::eightOfTwenty, 6, 2, d -> d.split(19, 2));
        Refusal.denied("20 lots before 8 lots", OrderTest::eightOfTwenty, 1, 20, d -> d.split(19, 1));
        Refusal.denied("expired before both limits", d -> {
            eightOfTwenty(d);
            d.pass(1);
        }, 3, 12, d -> d.split(12, 1));
        Story eightLots = OrderTest::eight;
        Refusal.denied("too little before 8 lots", eightLots, 6, 2, d -> d.split(0, 2));
        Refusal.denied("8 lots", eightLots, 1, 8, d -> d.split(0, 1));
        Refusal.denied("expired before 8 lots", eightLots.then(d -> d.pass(1)), 3, 0, d -> d.split(0, 1));
        Story heap = twenty(d -> {
            d.receive(0, 4, 0, 1);
            d.recall(0);
            d.receive(0, 4, 0, 1);
        });
        Refusal.denied("on the heap before 20 lots", heap, 5, 0, d -> d.split(0, 1));
        Refusal.denied("too little before 20 lots", heap, 6, 4, d -> d.split(1, 4));
        Refusal.denied("20 lots", heap, 1, 20, d -> d.split(1, 3));
        Refusal.denied("expired before 20 lots", heap.then(d -> d.pass(2)), 3, 1, d -> d.split(1, 1));
    }

    private static void promise15ExceptionsOfMix() {
        Refusal.thrown("no such lot before both the same", Stories.USED, NONE, d -> d.mix(7, 7));
        Refusal.thrown("no such lot before both the same", Stories.USED, NONE, d -> d.mix(-1, -1));
        Refusal.thrown("no such second before the first is on the heap", Stories.USED, NONE, d -> d.mix(6, 7));
        Refusal.thrown("no such first before the second is gone", Stories.USED, NONE, d -> d.mix(7, 1));
        Refusal.thrown("no such second before the first is expired", Stories.USED, NONE, d -> d.mix(2, 7));
        Refusal.thrown("no such second before 20 lots", Stories.FULL, NONE, d -> d.mix(19, 20));
        Refusal.thrown("the same", Stories.USED, ILLEGAL, d -> d.mix(0, 0));
        Refusal.thrown("the same before on the heap", Stories.USED, ILLEGAL, d -> d.mix(6, 6));
        Refusal.thrown("the same before gone", Stories.USED, ILLEGAL, d -> d.mix(1, 1));
        Refusal.thrown("the same before expired", Stories.USED, ILLEGAL, d -> d.mix(2, 2));
        Refusal.thrown("the same before 20 lots", Stories.FULL, ILLEGAL, d -> d.mix(19, 19));
    }

    private static void promise15NotOnAShelf() {
        Refusal.denied("first on the heap, second gone", Stories.USED, 5, 6, d -> d.mix(6, 1));
        Refusal.denied("first gone, second on the heap", Stories.USED, 5, 1, d -> d.mix(1, 6));
        Refusal.denied("second alone, on the heap", Stories.USED, 5, 6, d -> d.mix(0, 6));
        Refusal.denied("second alone, gone", Stories.USED, 5, 3, d -> d.mix(0, 3));
        Refusal.denied("first alone", Stories.USED, 5, 6, d -> d.mix(6, 0));
        Refusal.denied("second on the heap before first expired", Stories.USED, 5, 6, d -> d.mix(2, 6));
        Refusal.denied("first gone before second expired", Stories.USED, 5, 1, d -> d.mix(1, 2));
        Refusal.denied("on the heap before another kind and zone", Stories.USED, 5, 6, d -> d.mix(6, 4));
        Refusal.denied("gone before 20 lots", Stories.FULL, 5, 0, d -> d.mix(19, 0));
        Story tight = d -> {
            d.addShelf(0, 5);
            d.addShelf(0, 5);
            d.receive(0, 5, 0, 1);
            d.receive(0, 5, 0, 1);
        };
        Refusal.denied("no room for both", tight, 2, 10, d -> d.mix(0, 1));
        Refusal.denied("on the heap before room", tight.then(d -> d.recall(1)), 5, 1, d -> d.mix(0, 1));
        Refusal.denied("expired before room", tight.then(d -> d.pass(2)), 3, 1, d -> d.mix(1, 0));
    }

    private static void promise15Expired() {
        Story both = d -> {
            d.addShelf(0, 20);
            d.addShelf(1, 20);
            d.receive(0, 5, 0, 0);
            d.receive(0, 5, 0, 0);
            d.receive(0, 5, 0, 1);
            d.receive(1, 5, 1, 0);
            d.receive(1, 5, 1, 1);
            d.pass(1);
        };
        Refusal.denied("both expired", both, 3, 0, d -> d.mix(0, 1));
        Refusal.denied("both expired, the other way", both, 3, 1, d -> d.mix(1, 0));
        Refusal.denied("second alone expired", both, 3, 1, d -> d.mix(2, 1));
        Refusal.denied("first alone expired", both, 3, 1, d -> d.mix(1, 2));
        Refusal.denied("first expired before another zone", both, 3, 3, d -> d.mix(3, 2));
        Refusal.denied("second expired before another zone", both, 3, 3, d -> d.mix(2, 3));
        Refusal.denied("expired before 20 lots", twenty(d -> {
            d.receive(0, 5, 0, 1);
            d.receive(0, 5, 0, 0);
        }).then(d -> d.pass(1)), 3, 1, d -> d.mix(0, 1));
    }

    private static void promise15Alike() {
        Story four = d -> {
            d.addShelf(0, 10);
            d.addShelf(2, 10);
            d.receive(0, 5, 0, 9);
            d.receive(1, 5, 0, 9);
            d.receive(0, 5, 2, 9);
            d.receive(1, 5, 2, 9);
        };
        Refusal.denied("kinds", four, 4, 0, d -> d.mix(0, 1));
        Refusal.denied("kinds in zone 2", four, 4, 2, d -> d.mix(2, 3));
        Refusal.denied("zones", four, 4, 2, d -> d.mix(0, 2));
        Refusal.denied("zones, the other way", four, 4, 0, d -> d.mix(2, 0));
        Refusal.denied("kinds and zones", four, 4, 2, d -> d.mix(1, 2));
        Story narrow = d -> {
            d.addShelf(0, 5);
            d.addShelf(0, 5);
            d.receive(0, 5, 0, 9);
            d.receive(1, 5, 0, 9);
        };
        Refusal.denied("kinds before room", narrow, 4, 0, d -> d.mix(0, 1));
        Story full = twenty(d -> {
            d.receive(0, 18, 0, 9);
            d.receive(0, 9, 1, 9);
            d.receive(0, 9, 1, 9);
        });
        Refusal.denied("zones before 20 lots", full, 4, 1, d -> d.mix(0, 1));
        Refusal.denied("20 lots", full, 1, 20, d -> d.mix(1, 2));
        Story narrowAndFull = d -> {
            d.addShelf(0, 5);
            d.addShelf(0, 5);
            for (int lot = 0; lot < 18; lot++) {
                d.receive(0, 5, 0, 9);
                d.ship(0, 5);
            }
            d.receive(0, 5, 0, 9);
            d.receive(0, 5, 0, 9);
        };
        Refusal.denied("20 lots before room", narrowAndFull, 1, 20, d -> d.mix(18, 19));
    }

    private static void promise16ExceptionsOfMove() {
        Refusal.thrown("no such lot before no such shelf", Stories.USED, NONE, d -> d.move(7, 3));
        Refusal.thrown("no such lot before no such shelf", Stories.USED, NONE, d -> d.move(-1, -1));
        Refusal.thrown("no such shelf before on the heap", Stories.USED, INDEX, d -> d.move(6, 3));
        Refusal.thrown("no such shelf before gone", Stories.USED, INDEX, d -> d.move(1, -1));
        Refusal.thrown("no such shelf before expired", Stories.USED, INDEX, d -> d.move(2, 3));
    }

    private static void promise16DenialsOfMove() {
        Story late = Stories.USED.then(d -> d.pass(50));
        Refusal.denied("on the heap before expired", late, 5, 6, d -> d.move(6, 1));
        Refusal.denied("gone before expired", late, 5, 1, d -> d.move(1, 0));
        Refusal.denied("on the heap before another zone", Stories.USED, 5, 6, d -> d.move(6, 0));
        Refusal.denied("expired before another zone", Stories.USED, 3, 2, d -> d.move(2, 0));
        Refusal.denied("expired, to its own shelf", Stories.USED, 3, 2, d -> d.move(2, 1));
        Refusal.denied("another zone", Stories.USED, 4, 1, d -> d.move(0, 1));
        Story narrow = d -> {
            d.addShelf(0, 9);
            d.addShelf(0, 8);
            d.addShelf(1, 8);
            d.receive(0, 9, 0, 0);
        };
        Refusal.denied("no room", narrow, 2, 9, d -> d.move(0, 1));
        Refusal.denied("another zone before no room", narrow, 4, 1, d -> d.move(0, 2));
        Refusal.denied("expired before no room", narrow.then(d -> d.pass(1)), 3, 0, d -> d.move(0, 1));
        Refusal.denied("on the heap before no room", narrow.then(d -> d.recall(0)), 5, 0, d -> d.move(0, 1));
    }

    private static void promise17Ship() {
        Refusal.denied("too little", Stories.USED, 6, 0, d -> d.ship(5, 99));
        Refusal.thrown("kind before too little", Stories.USED, ILLEGAL, d -> d.ship(6, 99));
        Refusal.thrown("volume before too little", Stories.USED, ILLEGAL, d -> d.ship(5, 100));
        Refusal.thrown("volume 0", Stories.USED, ILLEGAL, d -> d.ship(5, 0));
    }

    private static void promise31FirstToShip() {
        Refusal.thrown("no such kind before no such lot", Stories.NEW, ILLEGAL, d -> d.firstToShip(6));
        Refusal.thrown("no such lot", Stories.NEW, NONE, d -> d.firstToShip(5));
    }

    private static void promise46And47Texts() {
        Refusal.faulty(Stories.SEVERAL, "compost;compost;x", 16);
        Refusal.faulty(Stories.SEVERAL, "split 99 99;", 12);
        Refusal.faulty(Stories.SEVERAL, "wait 0;wait", 11);
        Refusal.failed(Stories.SEVERAL, "split 99 99;wait 0;compost", 0, 9);
        Refusal.failed(Stories.SEVERAL, "wait 1;split 2 9;wait 0", 1, 3);
    }
}
