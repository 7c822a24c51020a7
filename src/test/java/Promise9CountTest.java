/** Promise 9: count. */
public final class Promise9CountTest {
    public static void main(String[] args) throws ReflectiveOperationException {
        Sentences.run(Promise9CountTest.class);
    }

    @Says("THE PLACE of the latest text that couldn't be read, -1 if there was none (0);")
    static void hasNoPlaceAtFirst() {
        new Driver().count(0, -1).askNumber("1", 1).count(0, -1).define("A=1", 0).count(0, -1).askThrows("F", Driver.MISSING)
                .count(0, -1).askThrows("/10", Driver.ARITHMETIC).count(0, -1);
    }

    /** A number out of range is bad too, but no text. */
    @Says("THE PLACE of the latest text that couldn't be read, -1 if there was none (0);")
    static void hasNoPlaceForANumberOutOfRange() {
        new Driver().typeThrows(32L, Driver.BAD).count(0, -1).removeThrows(6, Driver.BAD).count(0, -1);
        new Driver().badDefine("A=11", 3).typeThrows(32L, Driver.BAD).removeThrows(6, Driver.BAD).count(0, 3);
        new Driver().badAsk("+1", 2).typeText("1".repeat(40)).typeThrows(49L, Driver.STATE).count(0, 2);
    }

    @Says("THE PLACE of the latest text that couldn't be read, -1 if there was none (0);")
    static void tellsTheLatestPlace() {
        Driver d = new Driver().badAsk("+1", 2).askNumber("1", 1).count(0, 2).define("A=1", 0).count(0, 2).badDefine("A=11", 3);
        d.badAsk("", 0).badDefine("Aa", 2).askThrows("F", Driver.MISSING).count(0, 2).badAsk("x", 0).badDefine("A=1x", 3);
        d.remove(0).count(0, 3).badDefine("", 0).count(0, 0).count(0, 0);
    }

    @Says("THE PLACE of the latest text that couldn't be read, -1 if there was none (0);")
    static void tellsTheFirstAndTheLastPlaceOfFullTexts() {
        String thirtyNine = "?".repeat(11) + "111" + "zn".repeat(5) + "1".repeat(15);
        String forty = "?".repeat(11) + "111" + "zn".repeat(6) + "1".repeat(14);
        new Driver().askNumber(thirtyNine, 1).count(0, -1).badAsk("x" + thirtyNine, 0).badAsk(thirtyNine + "1", 39);
        new Driver().askNumber(forty, 1).count(0, -1).badAsk(forty.substring(0, 39), 39).badAsk("1".repeat(40), 1);
    }

    @Says("the text's length (1);")
    static void tellsTheLength() {
        new Driver().count(1, 0).typeText("A=").count(1, 2).typeText("12345678901").count(1, 13).badDefine("", 3).count(1, 0);
        new Driver().typeText("1".repeat(39)).count(1, 39).type(49L, 40).count(1, 40).typeThrows(49L, Driver.STATE).count(1, 40)
                .badAsk("", 1).count(1, 0);
        new Driver().typeText("1").typeThrows(32L, Driver.BAD).count(1, 1).askNumber("", 1).count(1, 0);
    }

    @Says("DEFINITIONS (2);")
    static void tellsTheDefinitions() {
        Driver d = new Driver().count(2, 0);
        for (int name = 0; name < 6; name++) {
            d.define((char) ('A' + name) + "a=a", 1).count(2, name + 1);
        }
        d.define("F=1", 0).count(2, 6).badDefine("G=1", 0).badDefine("C=", 2).count(2, 6).remove(0).count(2, 5);
        d.removeThrows(0, Driver.MISSING).removeThrows(6, Driver.BAD).count(2, 5).ask("B", Driver.FUNCTION).count(2, 5);
    }

    @Says("CALLS of the latest ASKING and what followed (3),")
    static void tellsTheCallsOfTheLatestAsking() {
        Driver d = new Driver().define("A=1", 0).define("Bab=+aA", 2).count(3, 0);
        d.askNumber("+AA", 2).count(3, 2).askNumber("..B4F", 5).count(3, 2).ask(".B1", Driver.FUNCTION).count(3, 0);
        d.ask(":AA", Driver.PAIR).count(3, 0).head(1).count(3, 1).head(1).count(3, 1).tail(Driver.NUMBER).count(3, 2);
        d.number(1).count(3, 2).badAsk("x", 0).count(3, 2).headThrows(Driver.UNSUPPORTED).count(3, 2);
        d.askThrows("+A/A0", Driver.ARITHMETIC).count(3, 2).askNumber("1", 1).count(3, 0);
    }

    @Says("of all (4);")
    static void tellsTheCallsOfAll() {
        Driver d = new Driver().define("A=1", 0).define("Bab=+aA", 2).count(4, 0);
        d.askNumber("+AA", 2).count(4, 2).askNumber("..B4F", 5).count(4, 4).ask(".B1", Driver.FUNCTION).count(4, 4);
        d.ask(":AA", Driver.PAIR).head(1).count(4, 5).tail(Driver.NUMBER).count(4, 6).badAsk("x", 0).count(4, 6);
        d.askThrows("+A/A0", Driver.ARITHMETIC).count(4, 8).define("A=2", 0).count(4, 8).remove(0).count(4, 8);
    }

    @Says({"CALLS of the latest ASKING and what followed (3),", "of all (4);"})
    static void tellsNoMoreThanFourHundredCalls() {
        Driver d = new Driver().define("A=:1A", 0).ask("A", Driver.PAIR);
        for (int i = 2; i <= 400; i++) {
            d.tail(Driver.PAIR);
        }
        d.count(3, 400).head(1).tailThrows(Driver.STATE).count(3, 400).count(4, 400).count(7, 2);
        d.ask("A", Driver.PAIR).count(3, 1).count(4, 401);
    }

    @Says("CLOSURES FORCED for the first time (5),")
    static void tellsTheClosuresForcedFirst() {
        Driver d = new Driver().define("Aa=+aa", 1).define("Bab=b", 2).count(5, 0);
        d.askNumber(".A4", 8).count(5, 1).askNumber(".A.A4", 16).count(5, 3).askNumber("..BF4", 4).count(5, 4);
        d.askNumber("h:1F", 1).count(5, 5).askNumber("t:F1", 1).count(5, 6).ask(":1:23", Driver.PAIR).count(5, 6);
        d.head(1).count(5, 7).head(1).count(5, 7).tail(Driver.PAIR).count(5, 8).head(2).count(5, 9);
    }

    @Says("CLOSURES FORCED for the first time (5),")
    static void tellsTheClosuresWhoseForcingThrew() {
        Driver d = new Driver().define("Aa=+aa", 1).askThrows(".A/10", Driver.ARITHMETIC).count(5, 1).count(6, 0);
        d.askThrows("hn", Driver.MISSING).count(5, 1).askThrows("h:F1", Driver.MISSING).count(5, 2).ask(":1/10", Driver.PAIR);
        d.tailThrows(Driver.ARITHMETIC).count(5, 3).tailThrows(Driver.MISSING).count(5, 3).count(6, 0);
    }

    @Says("and later (6), in all;")
    static void tellsTheClosuresForcedLater() {
        Driver d = new Driver().define("Aa=+aa", 1).count(6, 0).askNumber(".A4", 8).count(6, 1).askNumber(".A.A4", 16);
        d.count(6, 3).ask(":1:23", Driver.PAIR).count(6, 3).head(1).count(6, 3).head(1).count(6, 4).head(1).count(6, 5);
        d.tail(Driver.PAIR).count(6, 5).badAsk("", 0).count(6, 5).define("Aa=+a+a+aa", 1).askNumber(".A1", 4).count(6, 8);
    }

    @Says("the deepest depth of the latest ASKING and what followed (7);")
    static void tellsTheDepth() {
        Driver d = new Driver().count(7, 0).askNumber("1", 1).count(7, 1).askNumber("+1+1+11", 4).count(7, 4);
        d.askNumber("?1+120", 3).count(7, 3).badAsk("x", 0).count(7, 3).define("Aab=+a*bb", 2).askNumber("..A34", 19).count(7, 5);
        d.ask(":1:+1+11*22", Driver.PAIR).count(7, 1).head(1).count(7, 1).tail(Driver.PAIR).count(7, 1).head(3).count(7, 3);
        d.tail(Driver.NUMBER).count(7, 3).number(4).headThrows(Driver.UNSUPPORTED).count(7, 3).ask("n", Driver.NIL).count(7, 1);
    }

    @Says("the deepest depth of the latest ASKING and what followed (7);")
    static void tellsNoMoreThanSixtyDepths() {
        Driver d = new Driver().define("B=B", 0).askThrows("B", Driver.STATE).count(7, 60).hasNoResult().count(7, 60);
        d.askThrows("+1n", Driver.UNSUPPORTED).count(7, 2).ask(":1B", Driver.PAIR).count(7, 1);
        d.tailThrows(Driver.STATE).count(7, 60);
    }

    @Says("else -1.")
    static void answersNothingElse() {
        int[] others = {-1, 8, 9, 10, 100, -8, 1 << 8, 1 << 16, Integer.MIN_VALUE, Integer.MAX_VALUE};
        for (int what : others) {
            new Driver().count(what, -1).define("Aa=+aa", 1).badAsk("A1", 1).askNumber(".A1", 2).typeText("1").count(what, -1);
        }
    }

    @Says("the text's length (1);")
    static void changesNothing() {
        Driver d = new Driver().define("A=:1A", 0).ask("A", Driver.PAIR).badAsk("11", 1).typeText("+1");
        for (int what = -2; what <= 9; what++) {
            d.count(what, countDue(what)).count(what, countDue(what));
        }
        d.head(1).tail(Driver.PAIR).askNumber("2", 3);
    }

    private static int countDue(int what) {
        int[] due = {1, 2, 1, 1, 1, 0, 0, 2};
        return what < 0 || what > 7 ? -1 : due[what];
    }
}
