import java.util.ArrayList;
import java.util.List;
import java.util.function.Supplier;

/**
 * What can be asked of a depot, as one text with a line for each answer. Each part is asked of an
 * object of its own, to which the same story is told: no object is used for more than 512 calls.
 */
final class Looks {
    /** One more than there can ever be, so that the missing ones are asked for too. */
    private static final int LOTS = 21;
    private static final int SHELVES = 9;

    private interface Part {
        void askAll(Looks looks);
    }

    private final PromiseDepot depot;
    private final StringBuilder answers;

    private Looks(PromiseDepot depot, StringBuilder answers) {
        this.depot = depot;
        this.answers = answers;
    }

    /** Everything but the latest denial and the fault position. */
    static String of(Story story) {
        return stateOf(story) + parts(story, Looks::line, Looks::buffer, Looks::changes) + undoneOf(story) + restoredOf(story)
                + parts(story.then(PromiseDepot::execute).refused(), Looks::shelves, Looks::accounts);
    }

    /** Everything that changes can change. */
    static String stateOf(Story story) {
        return parts(story, Looks::shelves, Looks::accounts, Looks::placing, Looks::lots, looks -> looks.pairs(0, 10), looks -> looks.pairs(10, LOTS),
                looks -> looks.lines(0, 10), looks -> looks.lines(10, LOTS));
    }

    /** The states to which undo goes back, one after the other. */
    static String undoneOf(Story story) {
        return parts(story, Looks::undone);
    }

    private static String restoredOf(Story story) {
        Story restored = story.then(PromiseDepot::restoreSnapshot).refused();
        return parts(restored, Looks::shelves, Looks::accounts, Looks::lots, Looks::changes);
    }

    /** The latest denial and the fault position. */
    static String memoryOf(PromiseDepot depot) {
        return "denial " + answer(depot::denial) + " " + answer(depot::denialDetail) + " " + answer(depot::denialCause)
                + ", fault " + answer(depot::faultPosition);
    }

    /** The first lines that differ, or "none". */
    static String difference(String got, String due) {
        String[] gotLines = got.split("\n");
        String[] dueLines = due.split("\n");
        for (int i = 0; i < Math.min(gotLines.length, dueLines.length); i++) {
            if (!gotLines[i].equals(dueLines[i])) {
                return "<" + gotLines[i] + "> where <" + dueLines[i] + "> is due";
            }
        }
        return gotLines.length == dueLines.length ? "none" : "of lengths";
    }

    /** Each line that is not alike, as "name: answer before -> answer after"; both have the same names in the same order. */
    static List<String> changes(String before, String after) {
        String[] old = before.split("\n");
        String[] now = after.split("\n");
        List<String> changes = new ArrayList<>();
        for (int i = 0; i < Math.min(old.length, now.length); i++) {
            if (!old[i].equals(now[i])) {
                changes.add(old[i] + " -> " + now[i].substring(now[i].indexOf(": ") + 2));
            }
        }
        if (old.length != now.length) {
            changes.add(old.length + " lines -> " + now.length + " lines");
        }
        return changes;
    }

    private static String parts(Story story, Part... parts) {
        StringBuilder answers = new StringBuilder();
        for (Part part : parts) {
            part.askAll(new Looks(story.depot(), answers));
        }
        return answers.toString();
    }

    private static String answer(Supplier<Object> call) {
        try {
            return String.valueOf(call.get());
        } catch (RuntimeException e) {
            return e.getClass().getSimpleName();
        }
    }

    private void ask(String name, Supplier<Object> call) {
        answers.append(name).append(": ").append(answer(call)).append('\n');
    }

    private void shelves() {
        ask("shelfCount", depot::shelfCount);
        for (int i = 0; i < SHELVES; i++) {
            int shelf = i;
            ask("zoneOf " + i, () -> depot.zoneOf(shelf));
            ask("roomOf " + i, () -> depot.roomOf(shelf));
            ask("lotsOn " + i, () -> depot.lotsOn(shelf));
            ask("countedDay " + i, () -> depot.countedDay(shelf));
            ask("shelfToCount " + i, () -> depot.shelfToCount(shelf));
        }
        for (int i = 0; i < 3; i++) {
            int zone = i;
            ask("fewestShelves " + i, () -> depot.fewestShelves(zone));
            ask("fewestShelvesBySearch " + i, () -> depot.fewestShelvesBySearch(zone));
        }
    }

    private void accounts() {
        ask("lotCount", depot::lotCount);
        ask("day", depot::day);
        ask("received", depot::received);
        ask("stored", depot::stored);
        ask("heaped", depot::heaped);
        ask("shipped", depot::shipped);
        ask("composted", depot::composted);
        ask("heapSize", depot::heapSize);
        ask("nextCompost", depot::nextCompost);
        ask("nextCompostByScan", depot::nextCompostByScan);
        ask("meanVolume", depot::meanVolume);
        ask("expiredShare", depot::expiredShare);
        for (int i = 0; i < 6; i++) {
            int kind = i;
            ask("available " + i, () -> depot.available(kind));
            ask("firstToShip " + i, () -> depot.firstToShip(kind));
        }
        for (int i = 0; i < 9; i++) {
            int rank = i;
            ask("lotByExpiry " + i, () -> depot.lotByExpiry(rank));
        }
    }

    /** The shelf for each volume in each zone, written as "1-4:2 5-20:0 21-40:NoSuchElementException". */
    private void placing() {
        for (int i = 0; i < 3; i++) {
            int zone = i;
            answers.append("shelfFor ").append(zone).append(":");
            String shelf = answer(() -> depot.shelfFor(zone, 1));
            int from = 1;
            for (int j = 2; j <= 40; j++) {
                int volume = j;
                String next = answer(() -> depot.shelfFor(zone, volume));
                if (!next.equals(shelf)) {
                    answers.append(' ').append(from).append('-').append(j - 1).append(':').append(shelf);
                    from = j;
                    shelf = next;
                }
            }
            answers.append(' ').append(from).append("-40:").append(shelf).append('\n');
        }
    }

    private void lots() {
        for (int i = 0; i < LOTS; i++) {
            int lot = i;
            ask("isOnShelf " + i, () -> depot.isOnShelf(lot));
            ask("shelfOf " + i, () -> depot.shelfOf(lot));
            ask("volumeOf " + i, () -> depot.volumeOf(lot));
            ask("expiryOf " + i, () -> depot.expiryOf(lot));
            ask("isExpired " + i, () -> depot.isExpired(lot));
            ask("parentCount " + i, () -> depot.parentCount(lot));
            ask("descendants " + i, () -> depot.descendants(lot));
            ask("descendantsByTable " + i, () -> depot.descendantsByTable(lot));
            ask("recallSize " + i, () -> depot.recallSize(lot));
        }
    }

    /** The lots that descend from each of some lots, by descendsFrom alone. */
    private void pairs(int from, int to) {
        int known = depot.lotCount();
        for (int i = from; i < to; i++) {
            StringBuilder found = new StringBuilder();
            for (int j = 0; j < LOTS; j++) {
                int ancestor = i;
                int lot = j;
                String descends = answer(() -> depot.descendsFrom(lot, ancestor));
                if (!descends.equals(lot < known && ancestor < known ? "false" : "NoSuchElementException")) {
                    found.append(' ').append(lot).append(descends.equals("true") ? "" : descends);
                }
            }
            answers.append("descend from ").append(i).append(':').append(found.length() == 0 ? " none" : found).append('\n');
        }
    }

    private void lines(int from, int to) {
        for (int i = from; i < to; i++) {
            int lot = i;
            ask("line of lot " + i, () -> Check.lineOf(depot, lot));
        }
    }

    /** The output line as it is. */
    private void line() {
        StringBuilder line = new StringBuilder();
        for (int i = 0; i < 40; i++) {
            int index = i;
            line.append(answer(() -> depot.lineCharacter(index))).append(' ');
        }
        answers.append("line: ").append(line).append('\n');
    }

    private void buffer() {
        ask("feed", () -> depot.feed(';'));
        ask("execute", depot::execute);
        ask("faultPosition", depot::faultPosition);
    }

    private void changes() {
        ask("undoCount", depot::undoCount);
    }

    private void undone() {
        for (int i = 0; i < 9; i++) {
            ask("undo", depot::undo);
            ask("undoCount", depot::undoCount);
            ask("day", depot::day);
            ask("heaped", depot::heaped);
            ask("shipped", depot::shipped);
            ask("composted", depot::composted);
            ask("nextCompost", depot::nextCompost);
            ask("shelfToCount", () -> depot.shelfToCount(0));
            int lots = depot.lotCount();
            for (int lot = 0; lot < lots; lot++) {
                int one = lot;
                ask("volumeOf " + lot, () -> depot.volumeOf(one));
            }
            int shelves = depot.shelfCount();
            for (int shelf = 0; shelf < shelves; shelf++) {
                int one = shelf;
                ask("roomOf " + shelf, () -> depot.roomOf(one));
            }
        }
    }
}
