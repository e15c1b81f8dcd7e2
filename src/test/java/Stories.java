/** Depots that several tests begin with. */
final class Stories {
    static final Story NEW = d -> { };
    static final Story SEVERAL = Stories::several;
    static final Story USED = SEVERAL.then(Stories::usedUp);
    static final Story FULL = Stories::full;

    private Stories() {
    }

    /**
     * Day 1; shelves of 20, 10 and 9 in zones 0, 1 and 0; lots 0, 2 (expired) and 4 on the shelves 2, 1
     * and 0, lot 6 on the heap, lots 1 and 3 (mixed) and 5 (composted) gone; 16 changes and a snapshot.
     */
    private static void several(PromiseDepot d) {
        d.addShelf(0, 20);
        d.addShelf(1, 10);
        d.addShelf(0, 9);
        d.receive(0, 9, 0, 5);
        d.receive(0, 6, 0, 2);
        d.receive(1, 4, 1, 0);
        d.saveSnapshot();
        d.split(0, 4);
        d.mix(1, 3);
        d.count(1);
        d.pass(1);
        d.ship(0, 3);
        d.receive(2, 3, 1, 9);
        d.recall(5);
        d.receive(2, 2, 1, 9);
        d.recall(6);
        d.compost();
    }

    /** A latest denial with a cause, a fault position, an output line and a text in the buffer. */
    private static void usedUp(PromiseDepot d) {
        Check.thrownBy(() -> Check.run(d, "compost;compost"));
        Check.thrownBy(() -> Check.run(d, "wait?"));
        d.writeLot(4);
        Check.feedAll(d, "wait 7");
    }

    /** 8 shelves; 20 lots, the lots 0 to 11 gone, 12 to 15 on shelf 3 and 16 to 19 on shelf 6, each of 2. */
    private static void full(PromiseDepot d) {
        d.addShelf(0, 40);
        for (int shelf = 1; shelf < 8; shelf++) {
            d.addShelf(shelf % 3, 5 + shelf);
        }
        for (int lot = 0; lot < 20; lot++) {
            d.receive(1, 2, 0, 9);
            if (lot < 12) {
                d.ship(1, 2);
            }
        }
    }
}
