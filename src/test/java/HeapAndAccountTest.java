import java.util.NoSuchElementException;
import java.util.Random;

/** Promises 33 to 45: the heap, days and accounts. */
public final class HeapAndAccountTest {
    public static void main(String[] args) {
        promises33To36Heap();
        heapOrder();
        heapOrderOfTwenty();
        heapOrderAfterUndo();
        promises37And38Days();
        promises39To43Accounts();
        promises44And45Shares();
        Check.finish("HeapAndAccountTest");
    }

    private static void promises33To36Heap() {
        PromiseDepot d = new PromiseDepot();
        Check.denied("compost of nothing", d, 7, 0, d::compost);
        Check.throwing("nextCompost of nothing", NoSuchElementException.class, d::nextCompost);
        Check.throwing("nextCompostByScan of nothing", NoSuchElementException.class, d::nextCompostByScan);
        d.addShelf(0, 40);
        d.receive(0, 5, 0, 1);
        d.receive(0, 5, 0, 1);
        Check.denied("detail is the lots on shelves", d, 7, 2, d::compost);
        d.recall(1);
        Check.due("heapSize", d.heapSize(), 1);
        Check.due("volume on the heap", d.volumeOf(1), 5);
        Check.due("nextCompost", d.nextCompost(), 1);
        Check.due("nextCompostByScan", d.nextCompostByScan(), 1);
        Check.due("compost", d.compost(), 5);
        Check.due("gone", Check.lineOf(d, 1), "1k0z0v0e1-");
        Check.due("heapSize after", d.heapSize(), 0);
        Check.denied("compost again", d, 7, 1, d::compost);
        Check.due("composted", d.composted(), 5);
    }

    private static void heapOrder() {
        PromiseDepot d = new PromiseDepot();
        d.addShelf(0, 40);
        d.addShelf(0, 40);
        int[][] lots = {{5, 9}, {7, 3}, {5, 2}, {7, 3}, {1, 0}, {7, 8}, {9, 9}, {5, 2}};
        for (int[] lot : lots) {
            d.receive(0, lot[0], 0, lot[1]);
        }
        for (int lot : new int[] {4, 7, 0, 5, 3, 2, 6, 1}) {
            d.recall(lot);
            Check.due("both ways", d.nextCompost(), d.nextCompostByScan());
        }
        for (int lot : new int[] {6, 1, 3, 5, 2, 7, 0, 4}) {
            Check.due("nextCompost", d.nextCompost(), lot);
            Check.due("nextCompostByScan", d.nextCompostByScan(), lot);
            Check.due("compost", d.compost(), lots[lot][0]);
        }
        Check.due("empty", d.heapSize(), 0);
    }

    private static void heapOrderOfTwenty() {
        for (int seed = 0; seed < 60; seed++) {
            Random random = new Random(seed);
            PromiseDepot d = new PromiseDepot();
            d.addShelf(0, 40);
            for (int lot = 0; lot < 20; lot++) {
                d.receive(0, 1 + random.nextInt(seed % 2 == 0 ? 3 : 5), 0, random.nextInt(3));
                if (lot % 8 == 7 || lot == 19) {
                    recallAllFrom(d, random.nextInt(8));
                }
            }
            Check.due("twenty on the heap", d.heapSize(), 20);
            for (int left = 20; left > 0; left--) {
                int lot = d.nextCompostByScan();
                int volume = d.volumeOf(lot);
                Check.due("top with " + left, d.nextCompost(), lot);
                Check.due("volume with " + left, d.compost(), volume);
                Check.due("gone with " + left, d.volumeOf(lot), 0);
            }
        }
    }

    private static void recallAllFrom(PromiseDepot d, int turn) {
        int lots = d.lotCount();
        for (int i = 0; i < lots; i++) {
            d.recall((i * 7 + turn) % lots);
        }
        for (int lot = 0; lot < lots; lot++) {
            d.recall(lot);
        }
    }

    private static void heapOrderAfterUndo() {
        PromiseDepot d = new PromiseDepot();
        d.addShelf(0, 40);
        for (int lot = 0; lot < 4; lot++) {
            d.receive(0, 5 + lot, 0, 1);
            d.recall(lot);
        }
        d.compost();
        d.compost();
        d.receive(0, 6, 0, 0);
        d.recall(4);
        Check.due("top", d.nextCompost(), 4);
        for (int i = 0; i < 4; i++) {
            d.undo();
        }
        for (int lot = 3; lot >= 0; lot--) {
            Check.due("top after undo", d.nextCompost(), lot);
            d.compost();
        }
    }

    private static void promises37And38Days() {
        PromiseDepot d = new PromiseDepot();
        for (int days : new int[] {0, -1, 100, Integer.MIN_VALUE, Integer.MAX_VALUE}) {
            Check.throwing("pass " + days, IllegalArgumentException.class, () -> d.pass(days));
        }
        Check.due("day 0", d.day(), 0);
        d.addShelf(0, 40);
        for (int days : new int[] {0, 1, 2, 2, 3}) {
            d.receive(0, 2, 0, days);
        }
        d.recall(2);
        Check.due("one day", d.pass(1), 1);
        Check.due("two days more, not the one on the heap", d.pass(2), 2);
        Check.due("day 3", d.day(), 3);
        Check.due("the last", d.pass(99), 1);
        Check.due("no more", d.pass(99), 0);
        Check.due("day 201", d.day(), 201);
        for (int i = 0; i < 400; i++) {
            d.pass(99);
        }
        Check.due("many days", d.day(), 201 + 400 * 99);
    }

    private static void promises39To43Accounts() {
        PromiseDepot d = new PromiseDepot();
        d.addShelf(0, 40);
        d.receive(0, 10, 0, 1);
        d.receive(1, 20, 0, 1);
        d.split(1, 6);
        d.ship(1, 3);
        accounts(d, 30, 27, 0, 3, 0);
        d.recall(1);
        accounts(d, 30, 10, 17, 3, 0);
        d.compost();
        accounts(d, 30, 10, 6, 3, 11);
        d.undo();
        accounts(d, 30, 10, 17, 3, 0);
        d.undo();
        d.undo();
        accounts(d, 30, 30, 0, 0, 0);
    }

    private static void accounts(PromiseDepot d, int received, int stored, int heaped, int shipped, int composted) {
        Check.due("received", d.received(), received);
        Check.due("stored", d.stored(), stored);
        Check.due("heaped", d.heaped(), heaped);
        Check.due("shipped", d.shipped(), shipped);
        Check.due("composted", d.composted(), composted);
    }

    private static void promises44And45Shares() {
        PromiseDepot d = new PromiseDepot();
        Check.throwing("meanVolume of none", ArithmeticException.class, d::meanVolume);
        Check.throwing("expiredShare of none", ArithmeticException.class, d::expiredShare);
        d.addShelf(0, 40);
        d.receive(0, 3, 0, 0);
        d.receive(0, 3, 0, 1);
        d.receive(0, 4, 0, 2);
        Check.due("meanVolume", d.meanVolume(), 10.0 / 3.0);
        Check.due("expiredShare 0", d.expiredShare(), 0f);
        d.pass(1);
        Check.due("expiredShare a third", d.expiredShare(), 1f / 3f);
        d.pass(1);
        Check.due("expiredShare two thirds", d.expiredShare(), 2f / 3f);
        d.recall(0);
        Check.due("meanVolume without the heap", d.meanVolume(), 3.5);
        Check.due("expiredShare without the heap", d.expiredShare(), 0.5f);
        d.recall(1);
        d.recall(2);
        Check.throwing("meanVolume, all on the heap", ArithmeticException.class, d::meanVolume);
        Check.throwing("expiredShare, all on the heap", ArithmeticException.class, d::expiredShare);
    }
}
