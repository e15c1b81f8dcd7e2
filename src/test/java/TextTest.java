import java.util.NoSuchElementException;

/** Promises 46 to 50: texts and output lines. */
public final class TextTest {
    public static void main(String[] args) {
        promise46Feed();
        promise47EveryCommand();
        promise47AllOrNone();
        promise47Causes();
        promise48Faults();
        promise48Kept();
        promises49And50Lines();
        Check.finish("TextTest");
    }

    private static void promise46Feed() {
        PromiseDepot d = new PromiseDepot();
        for (int i = 1; i <= 60; i++) {
            Check.due("feed", d.feed(i % 2 == 0 ? '\uffff' : '\0'), i);
        }
        Check.throwing("feed 61", IllegalStateException.class, () -> d.feed('x'));
        Check.throwing("no text", IllegalArgumentException.class, d::execute);
        Check.due("fault", d.faultPosition(), 0);
        Check.due("empty afterwards", d.feed('c'), 1);
        Check.due("no change", d.undoCount(), 0);
        PromiseDepot e = new PromiseDepot();
        Check.feedAll(e, "wait 10;wait 10;wait 10;wait 10;wait 10;wait 9;wait 9;wait 1");
        Check.throwing("feed 61 of a text", IllegalStateException.class, () -> e.feed('0'));
        Check.due("sixty characters", e.execute(), 8);
        Check.due("day", e.day(), 69);
    }

    private static void promise47EveryCommand() {
        PromiseDepot d = new PromiseDepot();
        Check.due("shelf", Check.run(d, "shelf 1 40;shelf 1 09"), 2);
        Check.due("capacity 09", d.roomOf(1), 9);
        Check.due("zone", d.zoneOf(1), 1);
        Check.due("receive", Check.run(d, "receive 5 12 1+07;receive 5 3 1+8"), 2);
        Check.due("lot 0", Check.lineOf(d, 0), "0k5z1v12e7@0");
        Check.due("lot 1", Check.lineOf(d, 1), "1k5z1v3e8@1");
        Check.due("split", Check.run(d, "split 00 2"), 1);
        Check.due("lot 2", Check.lineOf(d, 2), "2k5z1v2e7@0<0");
        Check.due("mix", Check.run(d, "mix 2&1"), 1);
        Check.due("lot 3", Check.lineOf(d, 3), "3k5z1v5e7@1<2<1");
        Check.due("move", Check.run(d, "move 3>0"), 1);
        Check.due("moved", d.shelfOf(3), 0);
        Check.due("ship", Check.run(d, "ship 5 11"), 1);
        Check.due("shipped", d.volumeOf(3), 4);
        Check.due("recall, compost", Check.run(d, "recall 3;compost"), 2);
        Check.due("composted", d.composted(), 4);
        Check.due("wait, count", Check.run(d, "wait 99;count 1"), 2);
        Check.due("counted", d.countedDay(1), 99);
        Check.due("changes", d.undoCount(), 8);
    }

    private static void promise47AllOrNone() {
        PromiseDepot d = new PromiseDepot();
        d.addShelf(0, 10);
        Check.denied("third fails", d, 8, 2, () -> Check.run(d, "receive 0 4 0+1;wait 3;split 0 1;count 0"));
        Check.due("cause", d.denialCause(), 3);
        Check.due("no lot", d.lotCount(), 0);
        Check.due("no day", d.day(), 0);
        Check.due("room", d.roomOf(0), 10);
        Check.due("no change", d.undoCount(), 1);
        Check.due("buffer is empty", d.feed('x'), 1);
        Check.throwing("x is no text", IllegalArgumentException.class, d::execute);
        Check.due("one change", Check.run(d, "receive 0 4 0+1;wait 1;count 0"), 3);
        Check.due("changes", d.undoCount(), 2);
        Check.due("undo", d.undo(), 1);
        Check.due("all undone", d.lotCount() + d.day(), 0);
        Check.throwing("never counted", NoSuchElementException.class, () -> d.countedDay(0));
    }

    private static void cause(PromiseDepot d, String text, int index, int cause) {
        Check.denied(text, d, 8, index, () -> Check.run(d, text));
        Check.due("cause of " + text, d.denialCause(), cause);
    }

    private static void promise47Causes() {
        PromiseDepot d = new PromiseDepot();
        cause(d, "shelf 3 10", 0, 9);
        cause(d, "shelf 0 0", 0, 9);
        cause(d, "shelf 0 41", 0, 9);
        cause(d, "count 0", 0, 9);
        cause(d, "wait 1;wait 0", 1, 9);
        cause(d, "compost", 0, 7);
        cause(d, "receive 0 5 0+1", 0, 2);
        cause(d, "receive 6 5 0+1", 0, 9);
        cause(d, "recall 0", 0, 9);
        d.addShelf(0, 20);
        d.addShelf(1, 20);
        d.receive(0, 10, 0, 5);
        d.receive(0, 10, 1, 5);
        cause(d, "move 0>2", 0, 9);
        cause(d, "move 2>0", 0, 9);
        cause(d, "move 0>1", 0, 4);
        cause(d, "mix 0&1", 0, 4);
        cause(d, "mix 0&0", 0, 9);
        cause(d, "split 0 10", 0, 6);
        cause(d, "split 0 0", 0, 9);
        cause(d, "ship 0 0", 0, 9);
        cause(d, "ship 0 21", 0, 6);
        cause(d, "recall 0;split 0 1", 1, 5);
        cause(d, "wait 6;split 0 1", 1, 3);
        cause(d, "wait 6;ship 0 1", 1, 6);
        Check.due("nothing has changed", d.undoCount(), 4);
        PromiseDepot e = new PromiseDepot();
        Check.run(e, "shelf 0 1;shelf 0 1;shelf 0 1;shelf 0 1");
        cause(e, "shelf 0 1;shelf 0 1;shelf 0 1;shelf 0 1;shelf 0 1", 4, 1);
    }

    private static void promise48Faults() {
        Check.faulty("", 0);
        String[] whole = {"shelf 0 10", "receive 0 10 0+10", "split 10 10", "mix 10&10", "move 10>0", "ship 0 10", "recall 10", "compost", "count 0", "wait 10"};
        for (String command : whole) {
            everyFaultOf(command);
        }
        Check.faulty("wait 1;", 7);
        Check.faulty(";wait 1", 0);
        Check.faulty("wait 1;;wait 1", 7);
        Check.faulty("wait 1; wait 1", 7);
        Check.faulty("wait  1", 5);
        Check.faulty("wait 1 ", 6);
        Check.faulty("wait 1;shelves", 11);
        Check.faulty("recx", 3);
        Check.faulty("comx", 3);
        Check.faulty("count 10", 7);
        Check.faulty("shelf 10 1", 7);
        Check.faulty("mix 1&", 6);
        Check.faulty("mix 1>2", 5);
        Check.faulty("move 1&2", 6);
        Check.faulty("receive 1 2 3 4", 13);
        Check.faulty("receive 1 2 34", 13);
        Check.faulty("WAIT 1", 0);
        Check.faulty("wait \u0661", 5);
        Check.faulty("wait #", 5);
        Check.faulty("wait *", 5);
        Check.faulty("count #", 6);
        Check.faulty("wait 1;wait 1;wait 1;wait 1;wait 1;wait 1;wait 1;wait 12;com", 60);
    }

    /** A whole command fails if it ends too early, if one character is wrong, and if one more follows. */
    private static void everyFaultOf(String command) {
        boolean endsInNumber = Character.isDigit(command.charAt(command.length() - 1)) && command.charAt(command.length() - 2) == '1';
        for (int i = 0; i < command.length(); i++) {
            boolean mayEnd = i == command.length() - 1 && endsInNumber;
            if (!mayEnd) {
                Check.faulty(command.substring(0, i), i);
            }
            Check.faulty(command.substring(0, i) + "?" + command.substring(i + 1), i);
            Check.faulty("wait 1;" + command.substring(0, i) + "\n", 7 + i);
        }
        Check.faulty(command + "0", command.length());
        Check.faulty(command + ";", command.length() + 1);
    }

    private static void promise48Kept() {
        PromiseDepot d = new PromiseDepot();
        Check.throwing("none kept", NoSuchElementException.class, d::faultPosition);
        Check.due("good text", Check.run(d, "wait 1"), 1);
        Check.throwing("still none", NoSuchElementException.class, d::faultPosition);
        Check.throwing("bad text", IllegalArgumentException.class, () -> Check.run(d, "wai1"));
        Check.due("kept", d.faultPosition(), 3);
        Check.run(d, "wait 1");
        Check.throwing("denied text", UnsupportedOperationException.class, () -> Check.run(d, "compost"));
        Check.due("kept on", d.faultPosition(), 3);
        Check.throwing("a bad text is no denial of its own", IllegalArgumentException.class, d::execute);
        Check.due("denial as before", d.denial() * 10 + d.denialCause(), 87);
        Check.due("kept anew", d.faultPosition(), 0);
    }

    private static void promises49And50Lines() {
        PromiseDepot d = new PromiseDepot();
        Check.throwing("empty line", IndexOutOfBoundsException.class, () -> d.lineCharacter(0));
        d.addShelf(2, 40);
        d.receive(3, 30, 2, 4);
        Check.due("received", Check.lineOf(d, 0), "0k3z2v30e4@0");
        Check.due("length", d.writeLot(0), 12);
        for (int lot : new int[] {-1, 1, Integer.MAX_VALUE}) {
            Check.throwing("writeLot " + lot, NoSuchElementException.class, () -> d.writeLot(lot));
        }
        Check.due("line is as before", d.lineCharacter(11), '0');
        Check.throwing("index 12", IndexOutOfBoundsException.class, () -> d.lineCharacter(12));
        Check.throwing("index -1", IndexOutOfBoundsException.class, () -> d.lineCharacter(-1));
        d.split(0, 10);
        Check.due("replaced", Check.lineOf(d, 1), "1k3z2v10e4@0<0");
        d.pass(5);
        d.recall(1);
        Check.due("line is kept", d.lineCharacter(11), '0');
        Check.due("on the heap", Check.lineOf(d, 1), "1k3z2v10e4!h<0");
        d.compost();
        Check.due("gone", Check.lineOf(d, 1), "1k3z2v0e4!-<0");
        Check.due("expired on a shelf", Check.lineOf(d, 0), "0k3z2v20e4!@0");
        Check.throwing("nothing of a longer line is left", IndexOutOfBoundsException.class, () -> d.lineCharacter(13));
    }
}
