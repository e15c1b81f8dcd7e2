/** The document's terms, sentence by sentence: changes, undo, and snapshots, and what they leave untouched. */
public final class UndoTermsTest {
    private static final Class<IllegalStateException> STATE = IllegalStateException.class;

    /** A change of each method, as a call after Stories.SEVERAL, and some that change nothing that can be asked. */
    private static final Story[] CHANGES = {
        d -> d.addShelf(2, 30), d -> d.count(0), d -> d.count(1), d -> d.receive(3, 4, 0, 9), d -> d.split(4, 3), d -> d.mix(4, 0), d -> d.mix(0, 4),
        d -> d.move(0, 0), d -> d.move(0, 2), d -> d.ship(0, 1), d -> d.ship(0, 12), d -> d.recall(0), d -> d.recall(2), d -> d.recall(6), d -> d.recall(1),
        PromiseDepot::compost, d -> d.pass(1), d -> d.pass(99), d -> Check.run(d, "wait 3"), d -> Check.run(d, "recall 2;compost;compost;shelf 1 5;wait 9"),
    };

    /** Calls that are no changes, whether they answer or throw. */
    private static final Story[] OTHERS = {
        PromiseDepot::shelfCount, d -> d.zoneOf(0), d -> d.roomOf(0), d -> d.lotsOn(0), d -> d.shelfFor(0, 1), d -> d.countedDay(1), d -> d.shelfToCount(0),
        d -> d.fewestShelves(0), d -> d.fewestShelvesBySearch(0), PromiseDepot::lotCount, d -> d.isOnShelf(0), d -> d.shelfOf(0), d -> d.volumeOf(0),
        d -> d.expiryOf(0), d -> d.isExpired(0), d -> d.parentCount(0), d -> d.descendants(0), d -> d.descendantsByTable(0), d -> d.descendsFrom(4, 0),
        d -> d.recallSize(0), d -> d.available(0), d -> d.firstToShip(0), d -> d.lotByExpiry(0), PromiseDepot::heapSize, PromiseDepot::nextCompost,
        PromiseDepot::nextCompostByScan, PromiseDepot::day, PromiseDepot::received, PromiseDepot::stored, PromiseDepot::heaped, PromiseDepot::shipped,
        PromiseDepot::composted, PromiseDepot::meanVolume, PromiseDepot::expiredShare, PromiseDepot::denial, PromiseDepot::denialDetail,
        PromiseDepot::denialCause, PromiseDepot::faultPosition, d -> d.lineCharacter(0), PromiseDepot::undoCount,
    };

    public static void main(String[] args) {
        everyChangeIsUndone();
        queriesChangeNothing();
        refusedCallsAreNoChanges();
        feedAndLinesAreNoChanges();
        eightChangesAndTheNinth();
        undoneOneByOne();
        changesAfterUndo();
        roundAndRound();
        undoIsNotUndone();
        undoLeavesUntouched();
        noSnapshotYet();
        aSnapshotOfEverything();
        aSnapshotIsReplaced();
        aSnapshotIsKept();
        savingForgetsNoChange();
        restoringForgetsTheChanges();
        undoLeavesTheSnapshot();
        snapshotsLeaveUntouched();
        Check.finish("UndoTermsTest");
    }

    private static void alike(String what, Story got, Story due) {
        Check.due(what, Looks.difference(Looks.stateOf(got), Looks.stateOf(due)), "none");
    }

    private static Story pass(int... days) {
        return d -> {
            for (int some : days) {
                d.pass(some);
            }
        };
    }

    private static void everyChangeIsUndone() {
        Story before = Stories.SEVERAL;
        for (int i = 0; i < CHANGES.length; i++) {
            Story change = CHANGES[i];
            Story fresh = before.then(PromiseDepot::saveSnapshot).then(PromiseDepot::restoreSnapshot);
            Check.due("change " + i + " counts", fresh.then(change).depot().undoCount(), 1);
            Check.due("the undo of change " + i, fresh.then(change).depot().undo(), 0);
            alike("change " + i + " is undone", fresh.then(change).then(PromiseDepot::undo), before);
            alike("change " + i + " is done again", before.then(change).then(PromiseDepot::undo).then(change), before.then(change));
            alike("change " + i + " is undone after another", before.then(change).then(pass(3)).then(PromiseDepot::undo), before.then(change));
        }
    }

    private static void queriesChangeNothing() {
        String before = Looks.of(Stories.USED);
        String memory = Looks.memoryOf(Stories.USED.depot());
        for (int i = 0; i < OTHERS.length; i++) {
            Check.due("query " + i, Looks.difference(Looks.of(Stories.USED.then(OTHERS[i])), before), "none");
            Check.due("query " + i + ", latest denial and fault", Looks.memoryOf(Stories.USED.then(OTHERS[i]).depot()), memory);
            Check.due("query " + i + " on a new object", Looks.difference(Looks.of(OTHERS[i].refused()), Looks.of(Stories.NEW)), "none");
        }
    }

    private static void refusedCallsAreNoChanges() {
        Story[] refused = {d -> d.addShelf(3, 1), d -> d.count(3), d -> d.receive(6, 1, 0, 0), d -> d.receive(0, 40, 0, 0), d -> d.split(0, 5), d -> d.split(7, 1),
            d -> d.mix(0, 0), d -> d.mix(0, 2), d -> d.move(0, 1), d -> d.move(0, 3), d -> d.ship(0, 13), d -> d.ship(0, 0), d -> d.recall(7), d -> d.pass(0),
            d -> Check.run(d, "wait"), d -> Check.run(d, "wait 1;compost;compost"), PromiseDepot::execute};
        String before = Looks.of(Stories.SEVERAL);
        for (int i = 0; i < refused.length; i++) {
            Story call = refused[i];
            Check.due("call " + i + " is refused", Check.thrownBy(() -> call.tell(Stories.SEVERAL.depot())).equals("nothing"), false);
            Check.due("call " + i, Looks.difference(Looks.of(Stories.SEVERAL.then(call.refused())), before), "none");
        }
    }

    private static void feedAndLinesAreNoChanges() {
        String undone = Looks.undoneOf(Stories.SEVERAL);
        Story[] calls = {d -> d.feed('w'), d -> Check.feedAll(d, "x".repeat(60)), d -> d.writeLot(0), PromiseDepot::saveSnapshot};
        for (int i = 0; i < calls.length; i++) {
            Check.due("undo after call " + i, Looks.difference(Looks.undoneOf(Stories.SEVERAL.then(calls[i])), undone), "none");
            alike("state after call " + i, Stories.SEVERAL.then(calls[i]), Stories.SEVERAL);
        }
    }

    private static void eightChangesAndTheNinth() {
        Refusal.thrown("nothing to undo", Stories.NEW, STATE, PromiseDepot::undo);
        Check.due("none", new PromiseDepot().undoCount(), 0);
        Story eight = pass(1, 2, 4, 8, 16, 32, 64, 65);
        Check.due("eight", eight.depot().undoCount(), 8);
        PromiseDepot d = eight.depot();
        int[] days = {127, 63, 31, 15, 7, 3, 1, 0};
        for (int i = 0; i < 8; i++) {
            Check.due("undone", d.undo(), 7 - i);
            Check.due("day", d.day(), days[i]);
        }
        Check.throwing("no ninth", STATE, d::undo);
        Check.due("day 0", d.day(), 0);
        PromiseDepot e = eight.then(pass(66)).depot();
        Check.due("still eight", e.undoCount(), 8);
        for (int i = 7; i >= 0; i--) {
            Check.due("undone of nine", e.undo(), i);
        }
        Check.due("the first of nine is forgotten", e.day(), 1);
        Refusal.thrown("and cannot be undone", eight.then(pass(66)).then(f -> {
            for (int i = 0; i < 8; i++) {
                f.undo();
            }
        }), STATE, PromiseDepot::undo);
    }

    private static void undoneOneByOne() {
        Story[] steps = {d -> d.addShelf(0, 30), d -> d.receive(1, 20, 0, 3), d -> d.split(0, 8), d -> d.mix(1, 0), d -> d.count(0), d -> d.ship(1, 3),
            d -> d.split(2, 6), d -> d.recall(3), PromiseDepot::compost, d -> d.pass(4), d -> d.recall(2), d -> d.addShelf(1, 7)};
        Story[] states = new Story[steps.length];
        Story state = Stories.NEW;
        for (int i = 0; i < steps.length; i++) {
            state = state.then(steps[i]);
            states[i] = state;
        }
        Story back = state;
        for (int i = steps.length - 2; i >= steps.length - 9; i--) {
            back = back.then(PromiseDepot::undo);
            alike("back to step " + i, back, states[i]);
        }
        Check.due("eight are undone", back.depot().undoCount(), 0);
    }

    private static void changesAfterUndo() {
        PromiseDepot d = pass(1, 2, 4, 8, 16, 32, 64, 65, 66, 67).depot();
        d.undo();
        d.undo();
        d.undo();
        Check.due("three undone", d.undoCount() * 1000 + d.day(), 5127);
        d.pass(5);
        d.pass(6);
        Check.due("two more", d.undoCount() * 1000 + d.day(), 7138);
        d.pass(7);
        d.pass(8);
        Check.due("eight at most", d.undoCount() * 1000 + d.day(), 8153);
        int[] days = {145, 138, 132, 127, 63, 31, 15, 7};
        for (int i = 0; i < 8; i++) {
            d.undo();
            Check.due("undone " + i, d.day(), days[i]);
        }
        Check.throwing("no more", STATE, d::undo);
    }

    /** Goes through the kept states more than twice, by turns forward and back. */
    private static void roundAndRound() {
        PromiseDepot d = new PromiseDepot();
        int[] days = new int[100];
        int done = 0;
        int kept = 0;
        for (int turn = 0; turn < 12; turn++) {
            for (int i = 0; i < 5 + turn % 4; i++) {
                d.pass(1 + turn);
                days[done + 1] = days[done] + 1 + turn;
                done++;
                kept = Math.min(8, kept + 1);
                Check.due("forward", d.undoCount() * 1000 + d.day(), kept * 1000 + days[done]);
            }
            for (int i = 0; i < 3 + turn % 5 && kept > 0; i++) {
                done--;
                kept--;
                Check.due("back", d.undo(), kept);
                Check.due("day", d.day(), days[done]);
            }
        }
    }

    private static void undoIsNotUndone() {
        PromiseDepot d = pass(1, 2, 4).depot();
        d.undo();
        d.undo();
        Check.due("further back", d.day(), 1);
        d.undo();
        Check.due("to the beginning", d.day(), 0);
        Check.throwing("and no further", STATE, d::undo);
    }

    /** What is affected neither by undo nor by snapshots: the buffer, the fault, the line and the denial. */
    private static String untouched(Story story) {
        PromiseDepot d = story.depot();
        StringBuilder line = new StringBuilder();
        for (int i = 0; i < 15; i++) {
            line.append(d.lineCharacter(i));
        }
        String memory = Looks.memoryOf(d);
        int before = d.day();
        int length = d.feed('7');
        return line + " " + memory + ", length " + length + ", commands " + d.execute() + ", days " + (d.day() - before);
    }

    private static final String UNTOUCHED = "4k0z0v7e2@0<1<3 denial 8 1 7, fault 4, length 7, commands 1, days 77";

    private static void undoLeavesUntouched() {
        Story story = Stories.USED;
        Check.due("before", untouched(story), UNTOUCHED);
        for (int i = 0; i < 8; i++) {
            story = story.then(PromiseDepot::undo);
            Check.due("after " + (i + 1) + " undone", untouched(story), UNTOUCHED);
        }
        Check.due("after a refused one", untouched(story.then(d -> Check.thrownBy(d::undo))), UNTOUCHED);
    }

    private static void noSnapshotYet() {
        Refusal.thrown("none", Stories.NEW, STATE, PromiseDepot::restoreSnapshot);
        Refusal.thrown("none after changes", Stories.FULL, STATE, PromiseDepot::restoreSnapshot);
        Check.due("a snapshot of nothing", new PromiseDepot().saveSnapshot(), 0);
        Check.due("it can be restored", ((Story) PromiseDepot::saveSnapshot).depot().restoreSnapshot(), 0);
    }

    private static void aSnapshotOfEverything() {
        for (int i = 0; i < CHANGES.length; i++) {
            Story saved = Stories.SEVERAL.then(PromiseDepot::saveSnapshot);
            Story restored = saved.then(CHANGES[i]).then(PromiseDepot::restoreSnapshot);
            alike("before change " + i, restored, Stories.SEVERAL);
            alike("the same change " + i + " afterwards", restored.then(CHANGES[i]), Stories.SEVERAL.then(CHANGES[i]));
            Story after = Stories.SEVERAL.then(CHANGES[i]);
            alike("after change " + i, after.then(PromiseDepot::saveSnapshot).then(pass(9)).then(d -> d.recall(0)).then(PromiseDepot::restoreSnapshot), after);
        }
        Check.due("lots when it is saved", Stories.SEVERAL.depot().saveSnapshot(), 7);
        Check.due("lots of the restored one", Stories.SEVERAL.depot().restoreSnapshot(), 3);
        Check.due("20 lots", Stories.FULL.depot().saveSnapshot(), 20);
        alike("all lots undone by a snapshot of nothing", ((Story) PromiseDepot::saveSnapshot).then(Stories.FULL).then(PromiseDepot::restoreSnapshot), Stories.NEW);
    }

    private static void aSnapshotIsReplaced() {
        Story twice = pass(3).then(PromiseDepot::saveSnapshot).then(pass(4)).then(PromiseDepot::saveSnapshot).then(pass(5)).then(PromiseDepot::restoreSnapshot);
        Check.due("the later one", twice.depot().day(), 7);
        Story undone = pass(3, 4).then(PromiseDepot::saveSnapshot).then(PromiseDepot::undo).then(PromiseDepot::saveSnapshot).then(PromiseDepot::restoreSnapshot);
        Check.due("the later one, of fewer days", undone.depot().day(), 3);
    }

    private static void aSnapshotIsKept() {
        PromiseDepot d = Stories.SEVERAL.depot();
        d.saveSnapshot();
        for (int i = 0; i < 5; i++) {
            CHANGES[3 * i + 3].tell(d);
            d.pass(2);
            Check.due("restored", d.restoreSnapshot(), 7);
            Check.due("day", d.day(), 1);
            Check.due("lot 4", Check.lineOf(d, 4), "4k0z0v7e2@0<1<3");
            Check.due("heap", d.nextCompost(), 6);
        }
    }

    private static void savingForgetsNoChange() {
        Story saved = Stories.SEVERAL.then(PromiseDepot::saveSnapshot);
        Check.due("changes", saved.depot().undoCount(), 8);
        Check.due("undone as before", Looks.difference(Looks.undoneOf(saved), Looks.undoneOf(Stories.SEVERAL)), "none");
    }

    private static void restoringForgetsTheChanges() {
        Story restored = Stories.SEVERAL.then(PromiseDepot::restoreSnapshot);
        Check.due("none", restored.depot().undoCount(), 0);
        Refusal.thrown("none to undo", restored, STATE, PromiseDepot::undo);
        PromiseDepot d = restored.depot();
        for (int i = 1; i <= 9; i++) {
            d.pass(1);
            Check.due("changes afterwards", d.undoCount(), Math.min(8, i));
        }
        for (int i = 7; i >= 0; i--) {
            Check.due("undone", d.undo(), i);
        }
        Check.due("the first is forgotten", d.day(), 1);
        Check.throwing("not back before the restore", STATE, d::undo);
        Refusal.thrown("a refused restore forgets nothing", Stories.FULL, STATE, PromiseDepot::restoreSnapshot);
    }

    private static void undoLeavesTheSnapshot() {
        PromiseDepot d = pass(3).then(PromiseDepot::saveSnapshot).then(pass(4)).depot();
        d.undo();
        d.undo();
        Check.due("undone", d.day(), 0);
        d.restoreSnapshot();
        Check.due("restored", d.day(), 3);
        alike("undone changes do not change it", Stories.SEVERAL.then(PromiseDepot::saveSnapshot).then(PromiseDepot::undo).then(PromiseDepot::undo)
                .then(d2 -> d2.recall(0)).then(PromiseDepot::restoreSnapshot), Stories.SEVERAL);
    }

    private static void snapshotsLeaveUntouched() {
        Check.due("saved", untouched(Stories.USED.then(PromiseDepot::saveSnapshot)), UNTOUCHED);
        Check.due("restored", untouched(Stories.USED.then(PromiseDepot::restoreSnapshot)), UNTOUCHED);
        Check.due("restored twice", untouched(Stories.USED.then(PromiseDepot::restoreSnapshot).then(PromiseDepot::restoreSnapshot)), UNTOUCHED);
        Story saved = Stories.FULL.then(PromiseDepot::saveSnapshot).then(d -> Check.thrownBy(() -> d.addShelf(0, 1))).then(d -> d.writeLot(19));
        PromiseDepot d = saved.then(d2 -> Check.feedAll(d2, "wait 1;?")).then(d2 -> Check.thrownBy(d2::execute)).then(PromiseDepot::restoreSnapshot).depot();
        Check.due("what came after it was saved is left too", Looks.memoryOf(d), "denial 1 8 NoSuchElementException, fault 7");
        Check.due("line", d.lineCharacter(1), '9');
    }
}
