/** Terms: ASKING, THE RESULT, and what follows. */
public final class TermsAskingTest {
    public static void main(String[] args) throws ReflectiveOperationException {
        Sentences.run(TermsAskingTest.class);
    }

    @Says("ASKING an EXPRESSION without PARAMETERS works it out; its VALUE is THE RESULT.")
    static void givesTheResult() {
        Driver d = new Driver().define("Aa=a", 1).ask("+12", Driver.NUMBER).number(3).ask(":12", Driver.PAIR).head(1);
        d.ask("n", Driver.NIL).numberThrows(Driver.UNSUPPORTED).ask("A", Driver.FUNCTION).numberThrows(Driver.UNSUPPORTED);
        d.ask("5", Driver.NUMBER).number(5).ask(":67", Driver.PAIR).ask(":89", Driver.PAIR).head(8).tail(Driver.NUMBER).number(9);
    }

    @Says({"What follows goes on from there:", "its CLOSURES stay what they are, worked out or not,"})
    static void goesOnFromThere() {
        Driver d = new Driver().define("Aa=:a.A+a1", 1).ask(".A3", Driver.PAIR).tail(Driver.PAIR).tail(Driver.PAIR);
        d.count(3, 3).count(5, 2).head(5).count(5, 5).head(5).count(5, 5).tail(Driver.PAIR).head(6).count(3, 4).count(5, 7);
    }

    @Says("also if DEFINITIONS are changed or taken away;")
    static void staysWhenDefinitionsAreChangedOrTakenAway() {
        Driver d = new Driver().define("Aab=:+ab:*ab-ab", 2).ask("..A73", Driver.PAIR).remove(0).head(10);
        d.define("Aab=0", 2).tail(Driver.PAIR).head(21).define("A=0", 0).tail(Driver.NUMBER).number(4);
        d = new Driver().define("A=1", 0).ask(":AA", Driver.PAIR).head(1).define("A=2", 0).head(1).remove(0).head(1).count(3, 1);
        d = new Driver().define("Aa=:aa", 1).define("B=6", 0).ask(".AB", Driver.PAIR).head(6).remove(1);
        d.tail(Driver.NUMBER).number(6);
    }

    @Says("those not worked out yet use the DEFINITIONS then.")
    static void usesTheDefinitionsOfThen() {
        Driver d = new Driver().define("A=1", 0).define("B=:A:AB", 0).ask("B", Driver.PAIR).define("A=2", 0).head(2);
        d.define("A=3", 0).head(2).tail(Driver.PAIR).head(3).define("B=:9n", 0).tail(Driver.PAIR).head(9);
        d.tail(Driver.NIL);
        new Driver().ask(":AA", Driver.PAIR).define("A=7", 0).head(7).remove(0).head(7).tailThrows(Driver.MISSING).hasNoResult();
        new Driver().ask(":.A1n", Driver.PAIR).define("Aa=+a4", 1).head(5);
        new Driver().define("Aa=1", 1).ask(":.A1A", Driver.PAIR).define("A=1", 0).headThrows(Driver.UNSUPPORTED);
        new Driver().define("A=1", 0).ask(":AA", Driver.PAIR).define("Aa=a", 1).tail(Driver.FUNCTION);
    }

    @Says("When something is thrown by ask, head or tail, there's no RESULT any more.")
    static void hasNoResultAfterAThrow() {
        new Driver().ask(":12", Driver.PAIR).askThrows("/10", Driver.ARITHMETIC).hasNoResult();
        new Driver().ask(":n2", Driver.PAIR).headThrows(Driver.UNSUPPORTED).hasNoResult();
        new Driver().ask(":1F", Driver.PAIR).tailThrows(Driver.MISSING).hasNoResult();
        new Driver().ask("5", Driver.NUMBER).headThrows(Driver.UNSUPPORTED).hasNoResult();
        new Driver().ask("n", Driver.NIL).tailThrows(Driver.MISSING).hasNoResult().askNumber("5", 5).number(5);
    }

    @Says("thrown by ask, head or tail,")
    static void keepsTheResultWhenAnotherCallThrows() {
        Driver d = new Driver().define("A=1", 0).ask(":12", Driver.PAIR).numberThrows(Driver.UNSUPPORTED).badDefine("A", 1);
        d.typeThrows(32L, Driver.BAD).removeThrows(6, Driver.BAD).removeThrows(1, Driver.MISSING).badAsk("x", 0).head(1);
        d.typeText("1".repeat(40)).typeThrows(49L, Driver.STATE).badDefine("", 0).head(1).tail(Driver.NUMBER).number(2);
    }
}
