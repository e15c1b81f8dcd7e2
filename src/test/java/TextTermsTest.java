import java.util.HashMap;
import java.util.Map;
import java.util.NoSuchElementException;

/** The document's terms, sentence by sentence: the text buffer, the grammar, fault positions, and the output line. */
public final class TextTermsTest {
    private static final Class<IllegalArgumentException> FAULTY = IllegalArgumentException.class;

    /**
     * Each start of a command, with 1 for any digit, and the characters that can go on with it: # is any
     * digit, and where ; can follow the text can also end.
     */
    private static final String[][] STARTS = {
        {"", "csmrw"},
        {"s", "hp"}, {"sh", "ei"},
        {"she", "l"}, {"shel", "f"}, {"shelf", " "}, {"shelf ", "#"}, {"shelf 1", " "}, {"shelf 1 ", "#"}, {"shelf 1 1", "#;"}, {"shelf 1 11", ";"},
        {"shi", "p"}, {"ship", " "}, {"ship ", "#"}, {"ship 1", " "}, {"ship 1 ", "#"}, {"ship 1 1", "#;"}, {"ship 1 11", ";"},
        {"sp", "l"}, {"spl", "i"}, {"spli", "t"}, {"split", " "}, {"split ", "#"}, {"split 1", "# "}, {"split 11", " "}, {"split 1 ", "#"},
        {"split 11 ", "#"}, {"split 1 1", "#;"}, {"split 11 1", "#;"}, {"split 1 11", ";"}, {"split 11 11", ";"},
        {"r", "e"}, {"re", "c"}, {"rec", "ae"},
        {"rece", "i"}, {"recei", "v"}, {"receiv", "e"}, {"receive", " "}, {"receive ", "#"}, {"receive 1", " "}, {"receive 1 ", "#"},
        {"receive 1 1", "# "}, {"receive 1 11", " "}, {"receive 1 1 ", "#"}, {"receive 1 11 ", "#"}, {"receive 1 1 1", "+"}, {"receive 1 11 1", "+"},
        {"receive 1 1 1+", "#"}, {"receive 1 11 1+", "#"}, {"receive 1 1 1+1", "#;"}, {"receive 1 11 1+1", "#;"}, {"receive 1 1 1+11", ";"},
        {"receive 1 11 1+11", ";"},
        {"reca", "l"}, {"recal", "l"}, {"recall", " "}, {"recall ", "#"}, {"recall 1", "#;"}, {"recall 11", ";"},
        {"m", "io"},
        {"mi", "x"}, {"mix", " "}, {"mix ", "#"}, {"mix 1", "#&"}, {"mix 11", "&"}, {"mix 1&", "#"}, {"mix 11&", "#"}, {"mix 1&1", "#;"},
        {"mix 11&1", "#;"}, {"mix 1&11", ";"}, {"mix 11&11", ";"},
        {"mo", "v"}, {"mov", "e"}, {"move", " "}, {"move ", "#"}, {"move 1", "#>"}, {"move 11", ">"}, {"move 1>", "#"}, {"move 11>", "#"},
        {"move 1>1", ";"}, {"move 11>1", ";"},
        {"c", "o"}, {"co", "mu"},
        {"com", "p"}, {"comp", "o"}, {"compo", "s"}, {"compos", "t"}, {"compost", ";"},
        {"cou", "n"}, {"coun", "t"}, {"count", " "}, {"count ", "#"}, {"count 1", ";"},
        {"w", "a"}, {"wa", "i"}, {"wai", "t"}, {"wait", " "}, {"wait ", "#"}, {"wait 1", "#;"}, {"wait 11", ";"},
    };

    public static void main(String[] args) {
        theSixtiethCharacterIsTaken();
        aRefusedCharacterIsNotInTheText();
        textsOfSixtyCharacters();
        everyCharacterAfterEveryStart();
        everyStartAfterAnotherCommand();
        digitsAtEveryPlace();
        separators();
        whatFollowsTheFaultIsNothing();
        numbersOfOneOrTwoDigits();
        commandsCorrespondToMethods();
        commandsInTheirOrder();
        theNumberOfCommands();
        theBufferIsEmptyAfterwards();
        nothingOfAnOlderTextIsLeft();
        theFaultPositionIsKept();
        oneTextIsOneChange();
        theLineOfTheExample();
        linesOfEveryPlace();
        linesOfLongNumbers();
        theLineIsReplacedAndKept();
        Check.finish("TextTermsTest");
    }

    private static Story fed(String text) {
        return d -> Check.feedAll(d, text);
    }

    private static void theSixtiethCharacterIsTaken() {
        PromiseDepot d = new PromiseDepot();
        for (int i = 1; i <= 60; i++) {
            Check.due("length", d.feed((char) (i * 1000)), i);
        }
        for (int i = 0; i < 3; i++) {
            Check.throwing("the 61st", IllegalStateException.class, () -> d.feed(';'));
        }
        Refusal.thrown("the 61st", Stories.SEVERAL.then(fed("x".repeat(60))), IllegalStateException.class, e -> e.feed('x'));
        Check.due("the 60th", fed("x".repeat(59)).depot().feed('x'), 60);
    }

    private static void aRefusedCharacterIsNotInTheText() {
        String text = "wait 1;".repeat(7) + "wait 1;comp";
        Story full = fed(text);
        PromiseDepot d = full.depot();
        Check.due("length", text.length(), 60);
        Check.throwing("the 61st", IllegalStateException.class, () -> d.feed('o'));
        Check.throwing("execute", FAULTY, d::execute);
        Check.due("fault", d.faultPosition(), 60);
        Check.due("the buffer is empty", d.feed('x'), 1);
    }

    private static void textsOfSixtyCharacters() {
        String seven = "wait 1;".repeat(7);
        for (String last : new String[] {"receive 0 1", "shelf 0 10;", "count 9;cou", "mix 1&2;mix"}) {
            Check.due("length of the text that ends with " + last, (seven + last).length(), 60);
            Check.faulty(seven + last, 60);
            Check.faulty(seven + last.substring(0, 10) + "?", 59);
        }
        PromiseDepot e = Stories.SEVERAL.depot();
        String sixty = "receive 0 01 0+01;receive 0 01 0+01;wait 01;count 0;recall 07";
        Check.due("one too long", sixty.length(), 61);
        Check.throwing("one too long", IllegalStateException.class, () -> Check.run(Stories.SEVERAL.depot(), sixty));
        Check.due("sixty", Check.run(e, sixty.replace("recall 07", "recall 7")), 5);
        Check.due("all of it", Check.lineOf(e, 7) + " " + Check.lineOf(e, 8) + " " + e.countedDay(0), "7k0z0v1e2h 8k0z0v1e2@2 2");
    }

    private static Map<String, String> starts() {
        Map<String, String> starts = new HashMap<>();
        for (String[] start : STARTS) {
            starts.put(start[0], start[1]);
        }
        return starts;
    }

    private static boolean isAllowed(String allowed, int character) {
        boolean digit = character >= '0' && character <= '9';
        return character != '#' && allowed.indexOf(character) >= 0 || digit && allowed.indexOf('#') >= 0;
    }

    private static boolean canEnd(Map<String, String> starts, String start) {
        return starts.getOrDefault(start.replaceAll("[0-9]", "1"), "").indexOf(';') >= 0;
    }

    /** Whether the text matches or has the fault that is due; -1 stands for a text that matches. */
    private static void due(String text, int fault) {
        if (fault >= 0) {
            Check.faulty(text, fault);
        } else {
            String thrown = Check.thrownBy(() -> Check.run(Stories.SEVERAL.depot(), text));
            Check.due("'" + text + "' matches", thrown.equals("nothing") || thrown.equals("UnsupportedOperationException"), true);
        }
    }

    private static void goOn(Map<String, String> starts, String before, String start, int character) {
        String text = before + start + (char) character;
        if (!isAllowed(starts.get(start), character)) {
            due(text, text.length() - 1);
        } else {
            due(text, character != ';' && canEnd(starts, start + (char) character) ? -1 : text.length());
        }
    }

    private static void everyCharacterAfterEveryStart() {
        Map<String, String> starts = starts();
        for (String start : starts.keySet()) {
            due(start, canEnd(starts, start) ? -1 : start.length());
            for (int character = 0; character < 256; character++) {
                goOn(starts, "", start, character);
                goOn(starts, "", start, character + 256);
            }
            for (int character : new int[] {0x7fff, 0x8000, 0xffff, 0x0661, 0xff11, 0x8000 + '1', 0x8000 + ';'}) {
                goOn(starts, "", start, character);
            }
        }
    }

    private static void everyStartAfterAnotherCommand() {
        Map<String, String> starts = starts();
        String[] before = {"shelf 1 2;", "receive 1 2 0+3;", "split 1 2;", "mix 1&2;", "move 1>2;", "ship 1 2;", "recall 1;", "compost;", "count 1;",
            "wait 12;", "wait 1;compost;wait 1;"};
        for (String start : starts.keySet()) {
            for (String command : before) {
                due(command + start, canEnd(starts, start) ? -1 : command.length() + start.length());
                for (int character : "0159 ;&>+?acehilmnoprstvwxSW".toCharArray()) {
                    goOn(starts, command, start, character);
                }
            }
        }
    }

    private static void digitsAtEveryPlace() {
        String[] whole = {"shelf 1 11", "receive 1 11 1+11", "split 11 11", "mix 11&11", "move 11>1", "ship 1 11", "recall 11", "count 1", "wait 11"};
        for (String command : whole) {
            for (char digit = '0'; digit <= '9'; digit++) {
                due(command.replace('1', digit), -1);
                due(command.replaceFirst("1", "" + digit), -1);
                due(command.substring(0, command.length() - 1) + digit, -1);
                due(command + digit, command.length());
            }
            for (char other : new char[] {'/', ':', 'o', 'l', ' ', '-', '+', '\u00b2', '\u0660'}) {
                int first = command.indexOf('1');
                due(command.substring(0, first) + other + command.substring(first + 1), first);
            }
        }
    }

    private static void separators() {
        Check.faulty("", 0);
        Check.faulty(";", 0);
        Check.faulty(" ", 0);
        Check.faulty("compost;", 8);
        Check.faulty("compost;;", 8);
        Check.faulty("compost; ", 8);
        Check.faulty("compost ;compost", 7);
        Check.faulty("compost compost", 7);
        Check.faulty("compost,compost", 7);
        Check.faulty("compost\n", 7);
        Check.faulty(" compost", 0);
        Check.faulty("Compost", 0);
        Check.faulty("wait  1", 5);
        Check.faulty("wait\t1", 4);
        Check.faulty("mix 1 &2", 5);
        Check.faulty("mix 1& 2", 6);
        Check.faulty("move 1 >2", 6);
        Check.faulty("move 1> 2", 7);
        Check.faulty("receive 1 2 3 +4", 13);
        Check.faulty("receive 1 2 3+ 4", 14);
        Check.faulty("receive 1  2", 10);
        Check.faulty("count 1 2", 7);
        Check.faulty("compost 1", 7);
        Check.faulty("wait 1 2", 6);
        Check.faulty("wait +1", 5);
        Check.faulty("wait -1", 5);
        Check.faulty("wait 100", 7);
        due("compost;compost;compost;compost;compost;compost;compost", -1);
    }

    private static void whatFollowsTheFaultIsNothing() {
        for (String rest : new String[] {"", "?", ";", "wait 1", ";wait 1", " 1;compost"}) {
            Check.faulty("wai?" + rest, 3);
            Check.faulty("wait 1;rec?" + rest, 10);
            Check.faulty("wait 123" + rest, 7);
            Check.faulty("count 12" + rest, 7);
            Check.faulty("?" + rest, 0);
        }
    }

    private static void numbersOfOneOrTwoDigits() {
        for (int days = 1; days <= 99; days++) {
            PromiseDepot d = new PromiseDepot();
            Check.run(d, "wait " + days);
            Check.due("day", d.day(), days);
            if (days < 10) {
                Check.run(d, "wait 0" + days);
                Check.due("day, with a leading 0", d.day(), 2 * days);
            }
        }
        PromiseDepot d = new PromiseDepot();
        Check.run(d, "shelf 0 40;shelf 0 04;shelf 2 4");
        Check.due("capacities", d.roomOf(0) * 100 + d.roomOf(1) * 10 + d.roomOf(2), 4044);
        Check.run(d, "receive 3 4 0+00;receive 3 05 0+99;split 01 04");
        Check.due("volumes and expiries", Check.lineOf(d, 0) + " " + Check.lineOf(d, 1) + " " + Check.lineOf(d, 2),
                "0k3z0v4e0@1 1k3z0v1e99@0 2k3z0v4e99@0<1");
    }

    private static void same(String text, Story calls) {
        for (Story before : new Story[] {Stories.SEVERAL, Stories.SEVERAL.then(d -> d.addShelf(2, 40)).then(d -> d.receive(0, 5, 0, 9))}) {
            Story byText = before.then(d -> Check.run(d, text));
            Story byCalls = before.then(calls);
            Check.due("'" + text + "' as by calls", Looks.difference(Looks.stateOf(byText), Looks.stateOf(byCalls)), "none");
        }
    }

    private static void commandsCorrespondToMethods() {
        same("shelf 2 37", d -> d.addShelf(2, 37));
        same("shelf 0 1", d -> d.addShelf(0, 1));
        same("receive 5 3 1+42", d -> d.receive(5, 3, 1, 42));
        same("receive 1 2 0+0", d -> d.receive(1, 2, 0, 0));
        same("split 4 3", d -> d.split(4, 3));
        same("split 04 03", d -> d.split(4, 3));
        same("mix 4&0", d -> d.mix(4, 0));
        same("mix 0&4", d -> d.mix(0, 4));
        same("move 0>0", d -> d.move(0, 0));
        same("move 00>2", d -> d.move(0, 2));
        same("ship 0 10", d -> d.ship(0, 10));
        same("ship 0 1", d -> d.ship(0, 1));
        same("recall 2", d -> d.recall(2));
        same("recall 00", d -> d.recall(0));
        same("compost", PromiseDepot::compost);
        same("count 2", d -> d.count(2));
        same("wait 2", d -> d.pass(2));
        same("recall 6;compost;receive 0 5 0+3;wait 1;split 7 2", d -> {
            d.recall(6);
            d.compost();
            d.receive(0, 5, 0, 3);
            d.pass(1);
            d.split(7, 2);
        });
    }

    private static void commandsInTheirOrder() {
        PromiseDepot d = Stories.SEVERAL.depot();
        Check.run(d, "count 0;wait 3;count 2");
        Check.due("counted before and after", d.countedDay(0) * 10 + d.countedDay(2), 14);
        PromiseDepot e = Stories.SEVERAL.depot();
        Check.run(e, "receive 3 2 0+9;receive 3 3 0+9;wait 2;ship 3 1");
        Check.due("lots in the order of the text", Check.lineOf(e, 7) + " " + Check.lineOf(e, 8), "7k3z0v1e10@2 8k3z0v3e10@0");
    }

    private static void theNumberOfCommands() {
        for (int commands = 1; commands <= 8; commands++) {
            PromiseDepot d = new PromiseDepot();
            Check.due("commands", Check.run(d, "wait 1" + ";wait 1".repeat(commands - 1)), commands);
            Check.due("days", d.day(), commands);
        }
    }

    private static void theBufferIsEmptyAfterwards() {
        for (String text : new String[] {"wait 1", "wait", "wait 0", "", "compost;compost", "x".repeat(60), "wait 1;".repeat(7) + "wait 1;comp"}) {
            Story story = Stories.SEVERAL.then(fed(text)).then(d -> Check.thrownBy(d::execute));
            Check.due("after '" + text + "'", story.depot().feed('c'), 1);
            PromiseDepot d = story.depot();
            Check.throwing("an empty text after '" + text + "'", FAULTY, d::execute);
            Check.due("its fault", d.faultPosition(), 0);
            Check.due("a good text after '" + text + "'", Check.run(d, "count 0;wait 2"), 2);
        }
    }

    private static void nothingOfAnOlderTextIsLeft() {
        PromiseDepot d = new PromiseDepot();
        Check.run(d, "wait 12;wait 34");
        Check.throwing("a shorter text", FAULTY, () -> Check.run(d, "wait "));
        Check.due("it ends too early", d.faultPosition(), 5);
        Check.due("a number of one digit", Check.run(d, "wait 5"), 1);
        Check.due("days", d.day(), 51);
        Check.run(d, "shelf 2 30");
        Check.run(d, "wait 10");
        Check.due("days then", d.day(), 61);
    }

    private static void theFaultPositionIsKept() {
        Refusal.thrown("none was kept", Stories.SEVERAL, NoSuchElementException.class, PromiseDepot::faultPosition);
        Refusal.thrown("none was kept by good texts", Stories.SEVERAL.then(d -> Check.run(d, "wait 1")).then(d -> Check.thrownBy(() -> Check.run(d, "wait 0"))),
                NoSuchElementException.class, PromiseDepot::faultPosition);
        PromiseDepot d = Stories.SEVERAL.then(e -> Check.thrownBy(() -> Check.run(e, "wait 1;?"))).depot();
        Story[] calls = {e -> Check.run(e, "wait 1"), e -> Check.thrownBy(() -> Check.run(e, "wait 0")), PromiseDepot::undo, PromiseDepot::saveSnapshot,
            PromiseDepot::restoreSnapshot, e -> e.feed('c'), e -> e.pass(1), e -> Check.thrownBy(() -> e.ship(5, 1)), PromiseDepot::faultPosition};
        for (Story call : calls) {
            call.tell(d);
            Check.due("kept", d.faultPosition(), 7);
        }
        Check.throwing("the c that was fed before, and another", FAULTY, () -> Check.run(d, "ompose"));
        Check.due("kept last", d.faultPosition(), 6);
        Check.throwing("an empty text", FAULTY, d::execute);
        Check.due("0 is kept too", d.faultPosition(), 0);
    }

    private static void oneTextIsOneChange() {
        PromiseDepot d = new PromiseDepot();
        for (int texts = 1; texts <= 8; texts++) {
            Check.run(d, "wait 1;shelf 0 5;wait 1");
            Check.due("changes", d.undoCount(), texts);
        }
        for (int left = 7; left >= 0; left--) {
            Check.due("undone at once", d.undo(), left);
            Check.due("shelves", d.shelfCount(), left);
            Check.due("days", d.day(), 2 * left);
        }
        Story before = Stories.SEVERAL;
        Story undone = before.then(e -> Check.run(e, "shelf 2 5;wait 9;recall 0;compost;count 1")).then(PromiseDepot::undo);
        Check.due("all of it is undone", Looks.difference(Looks.stateOf(undone), Looks.stateOf(before)), "none");
    }

    private static void theLineOfTheExample() {
        PromiseDepot d = new PromiseDepot();
        d.addShelf(0, 10);
        d.addShelf(0, 20);
        d.receive(2, 8, 0, 30);
        d.receive(1, 1, 0, 5);
        d.receive(1, 1, 0, 5);
        d.receive(2, 7, 0, 31);
        d.mix(0, 3);
        Check.due("length", d.writeLot(4), 17);
        Check.due("the example", Check.lineOf(d, 4), "4k2z0v15e30@1<0<3");
    }

    private static void linesOfEveryPlace() {
        PromiseDepot d = Stories.SEVERAL.depot();
        String[] due = {"0k0z0v5e5@2", "1k0z0v0e2-", "2k1z1v4e0!@1", "3k0z0v0e5-<0", "4k0z0v7e2@0<1<3", "5k2z1v0e10-", "6k2z1v2e10h"};
        for (int lot = 0; lot < due.length; lot++) {
            Check.due("length", d.writeLot(lot), due[lot].length());
            Check.due("line", Check.lineOf(d, lot), due[lot]);
        }
        d.pass(10);
        String[] late = {"0k0z0v5e5!@2", "1k0z0v0e2!-", "2k1z1v4e0!@1", "3k0z0v0e5!-<0", "4k0z0v7e2!@0<1<3", "5k2z1v0e10!-", "6k2z1v2e10!h"};
        for (int lot = 0; lot < late.length; lot++) {
            Check.due("expired line", Check.lineOf(d, lot), late[lot]);
        }
    }

    private static void linesOfLongNumbers() {
        PromiseDepot d = new PromiseDepot();
        for (int i = 0; i < 110; i++) {
            d.pass(99);
        }
        for (int shelf = 0; shelf < 8; shelf++) {
            d.addShelf(2, 33 + shelf);
        }
        for (int lot = 0; lot < 17; lot++) {
            d.receive(5, 1, 2, 0);
            d.ship(5, 1);
        }
        d.receive(5, 19, 2, 99);
        d.receive(5, 21, 2, 99);
        d.mix(18, 17);
        Check.due("line", Check.lineOf(d, 19), "19k5z2v40e10989@7<18<17");
        d.pass(99);
        d.pass(1);
        d.recall(19);
        Check.due("expired line", Check.lineOf(d, 19), "19k5z2v40e10989!h<18<17");
        Check.due("first line", Check.lineOf(d, 0), "0k5z2v0e10890!-");
        Check.due("tenth line", Check.lineOf(d, 10), "10k5z2v0e10890!-");
    }

    private static void theLineIsReplacedAndKept() {
        PromiseDepot d = Stories.SEVERAL.depot();
        d.writeLot(4);
        Check.due("length of the longer", d.writeLot(4), 15);
        d.writeLot(0);
        Check.due("its last", d.lineCharacter(10), '2');
        Check.throwing("nothing of the longer", IndexOutOfBoundsException.class, () -> d.lineCharacter(11));
        Story[] calls = {e -> e.pass(9), e -> e.recall(0), PromiseDepot::compost, PromiseDepot::undo, PromiseDepot::saveSnapshot, PromiseDepot::restoreSnapshot,
            e -> Check.thrownBy(() -> e.writeLot(7)), e -> Check.thrownBy(() -> e.lineCharacter(11)), e -> Check.run(e, "wait 1"), e -> e.feed('x')};
        for (int call = 0; call < calls.length; call++) {
            calls[call].tell(d);
            StringBuilder line = new StringBuilder();
            for (int i = 0; i < 11; i++) {
                line.append(d.lineCharacter(i));
            }
            Check.due("kept after call " + call, line.toString(), "0k0z0v5e5@2");
        }
    }
}
