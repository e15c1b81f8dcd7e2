/** Calls that must be refused: they throw what is due and leave everything else as it was. */
final class Refusal {
    private Refusal() {
    }

    /** The call throws an exception that is no denial. */
    static void thrown(String what, Story before, Class<? extends RuntimeException> due, Story call) {
        PromiseDepot depot = before.depot();
        String memory = Looks.memoryOf(depot);
        Check.throwing(what, due, () -> call.tell(depot));
        Check.due(what + ", latest denial and fault", Looks.memoryOf(depot), memory);
        unchanged(what, before.then(call.refused()), before);
    }

    /** The call is denied; a denial of a call that is no text has no cause. */
    static void denied(String what, Story before, int number, int detail, Story call) {
        PromiseDepot depot = before.depot();
        String memory = "denial " + number + " " + detail + " NoSuchElementException" + faultIn(Looks.memoryOf(depot));
        Check.throwing(what, UnsupportedOperationException.class, () -> call.tell(depot));
        Check.due(what + ", latest denial and fault", Looks.memoryOf(depot), memory);
        unchanged(what, before.then(call.refused()), before);
    }

    /** The text matches, but the command at the index fails for the cause; the buffer must be empty before. */
    static void failed(Story before, String text, int index, int cause) {
        PromiseDepot depot = before.depot();
        String memory = "denial 8 " + index + " " + cause + faultIn(Looks.memoryOf(depot));
        Story call = d -> Check.run(d, text);
        Check.throwing("'" + text + "'", UnsupportedOperationException.class, () -> call.tell(depot));
        Check.due("'" + text + "', latest denial and fault", Looks.memoryOf(depot), memory);
        unchanged("'" + text + "'", before.then(call.refused()), before);
    }

    /** The text does not match from the position on; the buffer must be empty before. */
    static void faulty(Story before, String text, int position) {
        PromiseDepot depot = before.depot();
        String memory = Looks.memoryOf(depot).replaceAll(", fault .*", ", fault " + position);
        Story call = d -> Check.run(d, text);
        Check.throwing("'" + text + "'", IllegalArgumentException.class, () -> call.tell(depot));
        Check.due("'" + text + "', latest denial and fault", Looks.memoryOf(depot), memory);
        unchanged("'" + text + "'", before.then(call.refused()), before);
    }

    private static String faultIn(String memory) {
        return memory.substring(memory.indexOf(','));
    }

    private static void unchanged(String what, Story after, Story before) {
        Check.due(what + ", difference from before", Looks.difference(Looks.of(after), Looks.of(before)), "none");
    }
}
