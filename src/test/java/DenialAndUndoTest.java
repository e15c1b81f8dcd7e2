import java.util.NoSuchElementException;

/** Promises 51 to 57: the latest denial, undo and snapshots. */
public final class DenialAndUndoTest {
    public static void main(String[] args) {
        promises51To53Denial();
        promises54And55Undo();
        everyChangeIsUndone();
        whatIsNoChange();
        promises56And57Snapshots();
        whatUndoAndSnapshotsLeave();
        Check.finish("DenialAndUndoTest");
    }

    private static void promises51To53Denial() {
        PromiseDepot d = new PromiseDepot();
        Check.throwing("no denial", NoSuchElementException.class, d::denial);
        Check.throwing("no detail", NoSuchElementException.class, d::denialDetail);
        Check.throwing("no cause", NoSuchElementException.class, d::denialCause);
        Check.throwing("bad arguments are no denial", IllegalArgumentException.class, () -> d.addShelf(9, 9));
        Check.throwing("still no denial", NoSuchElementException.class, d::denial);
        Check.denied("compost", d, 7, 0, d::compost);
        Check.throwing("denial 7 has no cause", NoSuchElementException.class, d::denialCause);
        Check.denied("text", d, 8, 1, () -> Check.run(d, "wait 1;receive 0 9 0+1"));
        Check.due("cause", d.denialCause(), 2);
        d.pass(1);
        Check.due("kept", d.denial(), 8);
        Check.denied("no room", d, 2, 40, () -> d.receive(0, 40, 0, 0));
        Check.throwing("the cause is gone", NoSuchElementException.class, d::denialCause);
        Check.denied("text of a bad argument", d, 8, 0, () -> Check.run(d, "wait 00"));
        Check.due("cause 9", d.denialCause(), 9);
    }

    private static void promises54And55Undo() {
        PromiseDepot d = new PromiseDepot();
        Check.throwing("nothing to undo", IllegalStateException.class, d::undo);
        for (int i = 1; i <= 11; i++) {
            d.pass(i);
            Check.due("undoCount", d.undoCount(), Math.min(i, 8));
        }
        Check.due("day", d.day(), 66);
        for (int i = 11; i > 3; i--) {
            Check.due("undo", d.undo(), i - 4);
        }
        Check.due("day after 8", d.day(), 6);
        Check.throwing("older ones are forgotten", IllegalStateException.class, d::undo);
        d.pass(50);
        d.undo();
        Check.due("undo goes on", d.day(), 6);
        for (int i = 0; i < 5; i++) {
            d.pass(1);
        }
        d.undo();
        d.undo();
        d.pass(30);
        d.undo();
        Check.due("in between", d.day(), 9);
        Check.due("left", d.undoCount(), 3);
    }

    private static void everyChangeIsUndone() {
        PromiseDepot d = new PromiseDepot();
        d.addShelf(0, 20);
        d.receive(0, 9, 0, 3);
        d.split(0, 4);
        d.mix(1, 0);
        d.addShelf(0, 30);
        d.move(2, 1);
        d.ship(0, 1);
        d.count(1);
        d.recall(2);
        d.compost();
        d.undo();
        Check.due("compost", Check.lineOf(d, 2) + d.nextCompost() + d.composted(), "2k0z0v8e3h<1<020");
        d.undo();
        Check.due("recall", Check.lineOf(d, 2) + d.heapSize(), "2k0z0v8e3@1<1<00");
        d.undo();
        Check.throwing("count", NoSuchElementException.class, () -> d.countedDay(1));
        d.undo();
        Check.due("ship", d.volumeOf(2) + d.shipped(), 9);
        d.undo();
        Check.due("move", d.shelfOf(2), 0);
        d.undo();
        Check.due("addShelf", d.shelfCount(), 1);
        d.undo();
        Check.due("mix", d.lotCount(), 2);
        Check.due("mixed lots", Check.lineOf(d, 0) + " " + Check.lineOf(d, 1), "0k0z0v5e3@0 1k0z0v4e3@0<0");
        d.undo();
        Check.due("split", d.lotCount() * 10 + d.volumeOf(0), 19);
        Check.due("numbers begin again there", d.split(0, 1), 1);
    }

    private static void whatIsNoChange() {
        PromiseDepot d = new PromiseDepot();
        d.addShelf(0, 20);
        d.receive(0, 9, 0, 3);
        d.feed('x');
        d.saveSnapshot();
        d.writeLot(0);
        d.shelfFor(0, 1);
        Check.throwing("bad text", IllegalArgumentException.class, d::execute);
        Check.throwing("denied", UnsupportedOperationException.class, d::compost);
        Check.throwing("no lot", NoSuchElementException.class, () -> d.recall(5));
        Check.due("changes", d.undoCount(), 2);
        d.recall(0);
        d.recall(0);
        Check.due("a recall of nothing is a change", d.undoCount(), 4);
        for (int i = 0; i < 8; i++) {
            d.pass(1);
        }
        Check.throwing("denied with all kept", UnsupportedOperationException.class, () -> Check.run(d, "wait 1;split 0 1"));
        for (int i = 0; i < 8; i++) {
            d.undo();
        }
        Check.due("no kept state was lost", d.day(), 0);
        Check.due("heap", d.heapSize(), 1);
    }

    private static void promises56And57Snapshots() {
        PromiseDepot d = new PromiseDepot();
        Check.throwing("no snapshot", IllegalStateException.class, d::restoreSnapshot);
        Check.due("save of nothing", d.saveSnapshot(), 0);
        d.addShelf(0, 20);
        d.receive(0, 9, 0, 3);
        Check.due("restore of nothing", d.restoreSnapshot(), 0);
        Check.due("no shelves", d.shelfCount(), 0);
        Check.throwing("nothing to undo", IllegalStateException.class, d::undo);
        d.addShelf(0, 20);
        d.receive(0, 9, 0, 3);
        d.count(0);
        d.receive(1, 2, 0, 3);
        d.recall(1);
        d.ship(0, 1);
        d.pass(2);
        Check.due("save", d.saveSnapshot(), 2);
        Check.due("saving forgets no change", d.undoCount(), 7);
        d.undo();
        d.compost();
        d.mix(0, d.receive(0, 3, 0, 5));
        d.count(0);
        for (int i = 0; i < 2; i++) {
            Check.due("restore", d.restoreSnapshot(), 2);
            Check.due("lot 0", Check.lineOf(d, 0), "0k0z0v8e3@0");
            Check.due("lot 1", Check.lineOf(d, 1), "1k1z0v2e3h");
            Check.due("day", d.day(), 2);
            Check.due("countedDay", d.countedDay(0), 0);
            Check.due("accounts", d.received() * 100 + d.shipped() * 10 + d.composted(), 1110);
            Check.due("next", d.nextCompost(), 1);
            Check.due("no change can be undone", d.undoCount(), 0);
            Check.throwing("undo", IllegalStateException.class, d::undo);
            d.compost();
            d.pass(5);
        }
        d.undo();
        Check.due("changes after a restore can be undone", d.day(), 2);
    }

    private static void whatUndoAndSnapshotsLeave() {
        PromiseDepot d = new PromiseDepot();
        d.addShelf(0, 20);
        d.receive(0, 9, 0, 3);
        d.saveSnapshot();
        d.receive(0, 10, 0, 3);
        d.writeLot(1);
        Check.throwing("bad text", IllegalArgumentException.class, () -> Check.run(d, "wax"));
        Check.denied("no room", d, 2, 7, () -> d.receive(0, 7, 0, 3));
        d.feed('w');
        d.undo();
        left(d);
        d.restoreSnapshot();
        left(d);
        Check.due("buffer", d.feed('a'), 2);
    }

    private static void left(PromiseDepot d) {
        Check.due("line", d.lineCharacter(0), '1');
        Check.due("fault", d.faultPosition(), 2);
        Check.due("denial", d.denial(), 2);
        Check.due("detail", d.denialDetail(), 7);
    }
}
