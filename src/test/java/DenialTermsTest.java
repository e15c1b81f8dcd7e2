import java.util.NoSuchElementException;

/** The document's terms, sentence by sentence: denials with their details and causes, and how long they are kept. */
public final class DenialTermsTest {
    private static final Class<NoSuchElementException> NONE = NoSuchElementException.class;
    private static final Class<UnsupportedOperationException> DENIED = UnsupportedOperationException.class;

    public static void main(String[] args) {
        nothingWasDeniedYet();
        denial1TheLimit();
        denial2TheVolume();
        denial3TheNumber();
        denial4TheZone();
        denial5TheNumber();
        denial6TheVolumeThatThereIs();
        denial7LotsOnShelves();
        denial8TheIndex();
        causesOfShelf();
        causesOfReceive();
        causesOfSplit();
        causesOfMix();
        causesOfMove();
        causesOfShipRecallCompostCountAndWait();
        causesByWhatTheTextDidBefore();
        keptUntilTheNextDenial();
        replacedByTheNextDenial();
        otherExceptionsAreNoDenials();
        Check.finish("DenialTermsTest");
    }

    private static Story shelf(int zone, int capacity) {
        return d -> d.addShelf(zone, capacity);
    }

    private static Story lot(int kind, int volume, int zone, int days) {
        return d -> d.receive(kind, volume, zone, days);
    }

    private static void nothingWasDeniedYet() {
        for (Story story : new Story[] {Stories.NEW, Stories.SEVERAL, Stories.FULL, Stories.SEVERAL.then(d -> Check.thrownBy(() -> Check.run(d, "x")))}) {
            Refusal.thrown("denial", story, NONE, PromiseDepot::denial);
            Refusal.thrown("detail", story, NONE, PromiseDepot::denialDetail);
            Refusal.thrown("cause", story, NONE, PromiseDepot::denialCause);
        }
    }

    private static void denial1TheLimit() {
        Refusal.denied("8 shelves", Stories.FULL, 1, 8, shelf(0, 1));
        Refusal.denied("20 lots", Stories.FULL, 1, 20, lot(0, 1, 0, 0));
        Story eight = d -> {
            d.addShelf(0, 40);
            for (int i = 0; i < 8; i++) {
                d.receive(0, 2, 0, 0);
            }
        };
        Refusal.denied("8 lots on shelves", eight, 1, 8, lot(0, 1, 0, 0));
        Refusal.denied("8 lots on shelves, split", eight, 1, 8, d -> d.split(0, 1));
        Refusal.denied("20 lots, split", Stories.FULL, 1, 20, d -> d.split(19, 1));
        Refusal.denied("20 lots, mix", Stories.FULL, 1, 20, d -> d.mix(18, 19));
    }

    private static void denial2TheVolume() {
        for (int volume = 1; volume <= 40; volume++) {
            int one = volume;
            Story smaller = volume == 1 ? shelf(1, 40) : shelf(0, volume - 1).then(shelf(1, 40));
            Refusal.denied("received, " + volume, smaller, 2, volume, lot(0, one, 0, 0));
            Check.due("with a shelf of " + volume, smaller.then(shelf(0, volume)).depot().receive(0, volume, 0, 0), 0);
        }
        Story two = shelf(0, 20).then(lot(0, 20, 0, 1)).then(shelf(0, 19)).then(lot(0, 19, 0, 1));
        Refusal.denied("mixed", two, 2, 39, d -> d.mix(0, 1));
        Refusal.denied("moved", two, 2, 20, d -> d.move(0, 1));
        Refusal.denied("moved, the other", two, 2, 19, d -> d.move(1, 0));
    }

    private static void denial3TheNumber() {
        Story expired = shelf(0, 40).then(lot(0, 5, 0, 9)).then(lot(0, 5, 0, 0)).then(lot(0, 5, 0, 0)).then(d -> d.pass(1));
        for (int lot = 1; lot <= 2; lot++) {
            int one = lot;
            Refusal.denied("split", expired, 3, lot, d -> d.split(one, 1));
            Refusal.denied("moved", expired, 3, lot, d -> d.move(one, 0));
            Refusal.denied("mixed as first", expired, 3, lot, d -> d.mix(one, 0));
            Refusal.denied("mixed as second", expired, 3, lot, d -> d.mix(0, one));
            Refusal.denied("the first of both", expired, 3, lot, d -> d.mix(one, 3 - one));
        }
    }

    private static void denial4TheZone() {
        Story lots = shelf(0, 10).then(shelf(1, 10)).then(shelf(2, 10));
        for (int zone = 0; zone < 3; zone++) {
            lots = lots.then(lot(0, 3, zone, 0)).then(lot(1, 3, zone, 0));
        }
        for (int first = 0; first < 6; first++) {
            for (int second = 0; second < 6; second++) {
                int a = first;
                int b = second;
                if (a != b) {
                    Refusal.denied("mix " + a + " " + b, lots, 4, b / 2, d -> d.mix(a, b));
                }
            }
            for (int shelf = 0; shelf < 3; shelf++) {
                int a = first;
                int to = shelf;
                if (first / 2 != shelf) {
                    Refusal.denied("move " + a + " " + to, lots, 4, to, d -> d.move(a, to));
                }
            }
        }
    }

    private static void denial5TheNumber() {
        for (int lot : new int[] {1, 3, 5, 6}) {
            Refusal.denied("split", Stories.SEVERAL, 5, lot, d -> d.split(lot, 1));
            Refusal.denied("moved", Stories.SEVERAL, 5, lot, d -> d.move(lot, 0));
            Refusal.denied("mixed as first", Stories.SEVERAL, 5, lot, d -> d.mix(lot, 0));
            Refusal.denied("mixed as second", Stories.SEVERAL, 5, lot, d -> d.mix(0, lot));
            Refusal.denied("the first of both", Stories.SEVERAL, 5, lot, d -> d.mix(lot, lot == 6 ? 5 : 6));
        }
    }

    private static void denial6TheVolumeThatThereIs() {
        Story nine = shelf(0, 40).then(lot(2, 9, 0, 3)).then(lot(2, 4, 0, 3));
        Refusal.denied("split", nine, 6, 9, d -> d.split(0, 9));
        Refusal.denied("split of the other", nine, 6, 4, d -> d.split(1, 40));
        Refusal.denied("shipped", nine, 6, 13, d -> d.ship(2, 14));
        Refusal.denied("shipped, 99", nine, 6, 13, d -> d.ship(2, 99));
        Refusal.denied("shipped, of another kind", nine, 6, 0, d -> d.ship(1, 1));
        Refusal.denied("shipped, after some are", nine.then(d -> d.ship(2, 12)), 6, 1, d -> d.ship(2, 2));
        Refusal.denied("shipped, one is on the heap", nine.then(d -> d.recall(0)), 6, 4, d -> d.ship(2, 5));
        Refusal.denied("shipped, all are expired", nine.then(d -> d.pass(4)), 6, 0, d -> d.ship(2, 1));
    }

    private static void denial7LotsOnShelves() {
        Story lots = shelf(0, 40).then(shelf(1, 40));
        Refusal.denied("no lots", lots, 7, 0, PromiseDepot::compost);
        for (int on = 1; on <= 8; on++) {
            lots = lots.then(lot(0, 3, on % 2, on));
            Refusal.denied(on + " lots", lots, 7, on, PromiseDepot::compost);
        }
        Refusal.denied("expired lots too", lots.then(d -> d.pass(50)), 7, 8, PromiseDepot::compost);
        Refusal.denied("after one is composted", lots.then(d -> d.recall(3)).then(PromiseDepot::compost), 7, 7, PromiseDepot::compost);
    }

    private static void denial8TheIndex() {
        for (int good = 0; good < 8; good++) {
            String text = "wait 1;".repeat(good) + "wait 0";
            Refusal.failed(Stories.SEVERAL, text, good, 9);
            Refusal.failed(Stories.SEVERAL, text + ";wait 0".repeat(Math.max(0, 6 - good)), good, 9);
        }
        Refusal.failed(Stories.SEVERAL, "compost;compost;compost;compost;compost;compost;compost", 1, 7);
        Refusal.failed(Stories.NEW, "compost", 0, 7);
        Check.due("no command fails", Check.run(Stories.SEVERAL.depot(), "wait 1;wait 1;wait 1;wait 1;wait 1;wait 1;wait 1;wait 1"), 8);
    }

    private static void causesOfShelf() {
        for (String bad : new String[] {"3 10", "9 10", "0 0", "0 00", "0 41", "0 99"}) {
            Refusal.failed(Stories.SEVERAL, "wait 1;shelf " + bad, 1, 9);
            Refusal.failed(Stories.FULL, "shelf " + bad, 0, 9);
        }
        Refusal.failed(Stories.FULL, "shelf 2 40", 0, 1);
    }

    private static void causesOfReceive() {
        for (String bad : new String[] {"6 5 0+1", "9 5 0+1", "0 0 0+1", "0 00 0+1", "0 41 0+1", "0 99 0+1", "0 5 3+1", "0 5 9+1"}) {
            Refusal.failed(Stories.SEVERAL, "receive " + bad, 0, 9);
            Refusal.failed(Stories.FULL, "wait 1;receive " + bad, 1, 9);
        }
        Refusal.failed(Stories.FULL, "receive 0 1 0+1", 0, 1);
        Refusal.failed(Stories.SEVERAL, "receive 0 40 0+1", 0, 2);
        Refusal.failed(Stories.SEVERAL, "receive 0 1 2+1", 0, 2);
        Story eight = shelf(0, 40).then(lot(0, 9, 0, 9));
        for (int i = 0; i < 7; i++) {
            eight = eight.then(d -> d.split(0, 1));
        }
        Refusal.failed(eight, "receive 0 1 0+1", 0, 1);
        Refusal.failed(eight, "split 0 1", 0, 1);
    }

    private static void causesOfSplit() {
        Refusal.failed(Stories.SEVERAL, "split 7 1", 0, 9);
        Refusal.failed(Stories.SEVERAL, "split 99 1", 0, 9);
        Refusal.failed(Stories.SEVERAL, "split 0 0", 0, 9);
        Refusal.failed(Stories.SEVERAL, "split 0 41", 0, 9);
        Refusal.failed(Stories.SEVERAL, "split 6 1", 0, 5);
        Refusal.failed(Stories.SEVERAL, "split 1 1", 0, 5);
        Refusal.failed(Stories.SEVERAL, "split 2 1", 0, 3);
        Refusal.failed(Stories.SEVERAL, "split 0 5", 0, 6);
        Refusal.failed(Stories.FULL, "split 19 1", 0, 1);
    }

    private static void causesOfMix() {
        Refusal.failed(Stories.SEVERAL, "mix 7&0", 0, 9);
        Refusal.failed(Stories.SEVERAL, "mix 0&99", 0, 9);
        Refusal.failed(Stories.SEVERAL, "mix 0&00", 0, 9);
        Refusal.failed(Stories.SEVERAL, "mix 0&6", 0, 5);
        Refusal.failed(Stories.SEVERAL, "mix 0&2", 0, 3);
        Refusal.failed(Stories.SEVERAL, "receive 1 5 0+9;mix 0&7", 1, 4);
        Refusal.failed(Stories.FULL, "mix 18&19", 0, 1);
        Refusal.failed(shelf(0, 5).then(shelf(0, 5)).then(lot(0, 5, 0, 1)).then(lot(0, 5, 0, 1)), "mix 0&1", 0, 2);
    }

    private static void causesOfMove() {
        Refusal.failed(Stories.SEVERAL, "move 7>0", 0, 9);
        Refusal.failed(Stories.SEVERAL, "move 99>9", 0, 9);
        Refusal.failed(Stories.SEVERAL, "move 0>3", 0, 9);
        Refusal.failed(Stories.FULL, "move 19>8", 0, 9);
        Refusal.failed(Stories.SEVERAL, "move 6>0", 0, 5);
        Refusal.failed(Stories.SEVERAL, "move 2>1", 0, 3);
        Refusal.failed(Stories.SEVERAL, "move 0>1", 0, 4);
        Refusal.failed(Stories.SEVERAL, "move 4>2", 0, 2);
    }

    private static void causesOfShipRecallCompostCountAndWait() {
        Refusal.failed(Stories.SEVERAL, "ship 6 1", 0, 9);
        Refusal.failed(Stories.SEVERAL, "ship 9 1", 0, 9);
        Refusal.failed(Stories.SEVERAL, "ship 0 0", 0, 9);
        Refusal.failed(Stories.SEVERAL, "ship 0 13", 0, 6);
        Refusal.failed(Stories.SEVERAL, "ship 1 1", 0, 6);
        Refusal.failed(Stories.SEVERAL, "recall 7", 0, 9);
        Refusal.failed(Stories.FULL, "recall 20", 0, 9);
        Refusal.failed(Stories.FULL, "compost", 0, 7);
        Refusal.failed(Stories.SEVERAL, "count 3", 0, 9);
        Refusal.failed(Stories.FULL, "count 8", 0, 9);
        Refusal.failed(Stories.NEW, "count 0", 0, 9);
        Refusal.failed(Stories.SEVERAL, "wait 0", 0, 9);
        Refusal.failed(Stories.SEVERAL, "wait 00", 0, 9);
    }

    private static void causesByWhatTheTextDidBefore() {
        Refusal.failed(Stories.NEW, "shelf 0 9;receive 0 9 0+1;receive 0 1 0+1", 2, 2);
        Refusal.failed(Stories.NEW, "shelf 0 9;receive 0 9 0+0;wait 1;split 0 1", 3, 3);
        Refusal.failed(Stories.NEW, "shelf 0 9;receive 0 9 0+0;recall 0;move 0>0", 3, 5);
        Refusal.failed(Stories.NEW, "shelf 0 9;receive 0 9 0+0;recall 0;compost;compost", 4, 7);
        Refusal.failed(Stories.NEW, "shelf 0 9;receive 0 9 0+0;ship 0 5;ship 0 5", 3, 6);
        Refusal.failed(Stories.NEW, "shelf 0 9;shelf 1 9;receive 0 9 0+0;move 0>1", 3, 4);
        Refusal.failed(Stories.NEW, "shelf 0 1;shelf 0 1;shelf 0 1;shelf 0 1;count 4", 4, 9);
        Story seven = d -> {
            for (int i = 0; i < 7; i++) {
                d.addShelf(0, 5);
            }
        };
        Refusal.failed(seven, "shelf 0 5;shelf 0 5", 1, 1);
        Check.due("the eighth by a text", Check.run(seven.depot(), "shelf 0 5"), 1);
    }

    private static Story failedText() {
        return Stories.SEVERAL.then(d -> Check.thrownBy(() -> Check.run(d, "wait 1;wait 1;compost;compost")));
    }

    private static void keptUntilTheNextDenial() {
        PromiseDepot d = failedText().depot();
        Story[] calls = {e -> e.pass(1), e -> e.feed('x'), e -> Check.thrownBy(e::execute), e -> e.feed('w'), e -> Check.run(e, "ait 1"), e -> e.recall(0),
            PromiseDepot::compost, PromiseDepot::undo, PromiseDepot::saveSnapshot, PromiseDepot::restoreSnapshot, e -> Check.thrownBy(e::undo),
            e -> Check.thrownBy(() -> e.addShelf(3, 1)), e -> Check.thrownBy(() -> e.split(0, 0)), e -> Check.thrownBy(() -> e.split(99, 1)),
            e -> Check.thrownBy(() -> e.move(0, 9)), e -> Check.thrownBy(() -> e.shelfFor(2, 40)), e -> e.writeLot(0), e -> e.denial()};
        for (int i = 0; i < calls.length; i++) {
            calls[i].tell(d);
            Check.due("number after call " + i, d.denial(), 8);
            Check.due("detail after call " + i, d.denialDetail(), 3);
            Check.due("cause after call " + i, d.denialCause(), 7);
        }
    }

    private static void replacedByTheNextDenial() {
        PromiseDepot d = failedText().depot();
        Check.denied("another number", d, 6, 0, () -> d.ship(5, 1));
        Check.throwing("its cause is gone", NONE, d::denialCause);
        Check.denied("the same number with another detail", d, 6, 12, () -> d.ship(0, 99));
        Check.throwing("a text", DENIED, () -> Check.run(d, "wait 0"));
        Check.due("its number, detail and cause", d.denial() * 100 + d.denialDetail() * 10 + d.denialCause(), 809);
        Check.throwing("another text", DENIED, () -> Check.run(d, "wait 1;ship 0 99"));
        Check.due("and its cause", d.denial() * 100 + d.denialDetail() * 10 + d.denialCause(), 816);
        d.compost();
        Check.denied("7", d, 7, 3, d::compost);
        Check.throwing("cause of 7", NONE, d::denialCause);
    }

    private static void otherExceptionsAreNoDenials() {
        Story[] calls = {d -> d.addShelf(3, 1), d -> d.receive(6, 1, 0, 0), d -> d.split(7, 1), d -> d.split(0, 0), d -> d.mix(0, 7), d -> d.mix(0, 0),
            d -> d.move(7, 0), d -> d.move(0, 3), d -> d.ship(6, 1), d -> d.recall(7), d -> d.count(3), d -> d.pass(0), d -> d.shelfFor(1, 40),
            d -> d.countedDay(0), d -> d.firstToShip(5), d -> d.lotByExpiry(3), d -> d.shelfOf(6), PromiseDepot::restoreSnapshot, d -> Check.run(d, "wait")};
        for (int i = 0; i < calls.length; i++) {
            PromiseDepot d = (i == 17 ? shelf(0, 5) : Stories.SEVERAL).depot();
            Story call = calls[i];
            Check.due("call " + i + " throws something", Check.thrownBy(() -> call.tell(d)).equals("nothing"), false);
            Check.throwing("call " + i + " is no denial", NONE, d::denial);
            Check.throwing("call " + i + " has no detail", NONE, d::denialDetail);
            Check.throwing("call " + i + " has no cause", NONE, d::denialCause);
        }
    }
}
