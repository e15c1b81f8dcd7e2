/** The examples of README.md, in their order, on one object. */
public final class ReadmeTest {
    public static void main(String[] args) {
        PromiseDepot depot = new PromiseDepot();
        calls(depot);
        denials(depot);
        texts(depot);
        Check.finish("ReadmeTest");
    }

    private static void calls(PromiseDepot depot) {
        Check.due("shelf", depot.addShelf(0, 20), 0);
        int lot = depot.receive(3, 12, 0, 30);
        Check.due("lot", lot, 0);
        Check.due("part", depot.split(lot, 5), 1);
        depot.ship(3, 6);
        depot.pass(2);
        depot.undo();
        Check.due("the days are taken back", depot.day(), 0);
        Check.due("descendants", depot.descendants(lot), 1);
        Check.due("line", Check.lineOf(depot, lot), "0k3z0v1e30@0");
    }

    private static void denials(PromiseDepot depot) {
        Check.denied("ship", depot, 6, 6, () -> depot.ship(3, 99));
    }

    private static void texts(PromiseDepot depot) {
        Check.due("commands", Check.run(depot, "wait 2;recall 0;compost"), 3);
        Check.due("both were recalled, and the greater one composted", Check.lineOf(depot, 1), "1k3z0v0e30-<0");
        Check.due("and the other is on the heap", Check.lineOf(depot, 0), "0k3z0v1e30h");
        depot.undo();
        Check.due("one change", depot.day(), 0);
        String[] commands = {"shelf 0 20", "receive 3 12 0+30", "split 0 5", "mix 0&1", "move 0>1", "ship 3 6", "recall 0", "compost", "count 1", "wait 2"};
        for (String command : commands) {
            PromiseDepot other = new PromiseDepot();
            other.addShelf(0, 30);
            other.addShelf(0, 20);
            other.receive(3, 8, 0, 30);
            other.receive(3, 9, 0, 30);
            other.recall(other.receive(2, 2, 0, 9));
            Check.due(command, Check.run(other, command), 1);
            Check.throwing("a fault after it", IllegalArgumentException.class, () -> Check.run(other, command + "?"));
            Check.due("where it is", other.faultPosition(), command.length());
        }
    }
}
