/** Counts wrong answers; a test's main method ends with finish. */
final class Check {
    private static int wrong = 0;
    private static int checks = 0;

    private Check() {
    }

    static void due(String what, Object got, Object want) {
        checks++;
        if (!want.equals(got)) {
            wrong++;
            System.out.println(what + ": answered " + got + ", due is " + want);
        }
    }

    /** The call must throw exactly this class; one that the machine throws, or any other below it, is wrong. */
    static void throwing(String what, Class<? extends RuntimeException> due, Runnable call) {
        due(what, thrownBy(call), due.getSimpleName());
    }

    static String thrownBy(Runnable call) {
        try {
            call.run();
            return "nothing";
        } catch (RuntimeException e) {
            return e.getClass().getSimpleName();
        }
    }

    /** The call must be denied, and the number and the detail of the denial be kept. */
    static void denied(String what, PromiseDepot depot, int number, int detail, Runnable call) {
        throwing(what, UnsupportedOperationException.class, call);
        due(what + ", number", thrownBy(depot::denial).equals("nothing") ? depot.denial() : -1, number);
        due(what + ", detail", thrownBy(depot::denialDetail).equals("nothing") ? depot.denialDetail() : -1, detail);
    }

    static void feedAll(PromiseDepot depot, String text) {
        for (int i = 0; i < text.length(); i++) {
            depot.feed(text.charAt(i));
        }
    }

    static int run(PromiseDepot depot, String text) {
        feedAll(depot, text);
        return depot.execute();
    }

    /** The text must not match, with this fault position. */
    static void faulty(String text, int position) {
        PromiseDepot depot = new PromiseDepot();
        throwing("execute of '" + text + "'", IllegalArgumentException.class, () -> run(depot, text));
        due("fault of '" + text + "'", depot.faultPosition(), position);
    }

    static String lineOf(PromiseDepot depot, int lot) {
        int length = depot.writeLot(lot);
        StringBuilder line = new StringBuilder();
        for (int i = 0; i < length; i++) {
            line.append(depot.lineCharacter(i));
        }
        return line.toString();
    }

    static void finish(String name) {
        System.out.println(name + ": " + checks + " checks, " + wrong + " wrong");
        if (wrong != 0) {
            System.exit(1);
        }
    }
}
