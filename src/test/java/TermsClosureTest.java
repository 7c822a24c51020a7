/** Terms: CLOSURES and FORCING: what is not needed is not worked out, what is needed is worked out once. */
public final class TermsClosureTest {
    public static void main(String[] args) throws ReflectiveOperationException {
        Sentences.run(TermsClosureTest.class);
    }

    @Says("THE CLOSURE of a PARAMETER is its own CLOSURE;")
    static void handsParametersOnAsTheyAre() {
        Driver d = new Driver().define("Aa=+aa", 1).define("Ba=.Aa", 1).define("Ca=.Ba", 1);
        d.askNumber(".C+12", 6).count(3, 3).count(5, 1).count(6, 1);
        d = new Driver().define("Aa=:aa", 1).ask(".A+12", Driver.PAIR).head(3).count(5, 1).count(6, 0);
        d.tail(Driver.NUMBER).count(5, 1).count(6, 1);
    }

    @Says("of another EXPRESSION a new one,")
    static void makesANewOneOfEveryOtherExpression() {
        Driver d = new Driver().define("Aa=+aa", 1).askNumber(".A1", 2).count(5, 1).count(6, 1).count(7, 4);
        d.define("B=4", 0).askNumber(".AB", 8).count(3, 2).count(5, 2).count(6, 2).count(7, 5);
        d.define("Ca=za", 1).askNumber(".Cn", 1).count(5, 3).count(7, 4).ask(":BB", Driver.PAIR).head(4).count(3, 1);
        d.tail(Driver.NUMBER).count(3, 2).count(5, 5).count(6, 2);
    }

    @Says("of this with the PARAMETERS as they are here.")
    static void keepsParametersAsTheyAreThere() {
        Driver d = new Driver().define("Aab=:-ab..A*a2b", 2).ask("..A53", Driver.PAIR).tail(Driver.PAIR);
        d.head(7).tail(Driver.PAIR).head(17).ask(":..A12..A34", Driver.PAIR).tail(Driver.PAIR).head(-1);
        d.define("Ba=.Da", 1).define("Dab=-ab", 2).askNumber("..B94", 5).define("Eab=.b-a1", 2);
        d.askNumber("..E7.D9", 3).askNumber("..E7.B2", -4);
    }

    @Says("FORCING a CLOSURE: the first time its EXPRESSION is worked out, and it keeps the VALUE; later it gives that.")
    static void worksOutOnce() {
        Driver d = new Driver().define("A=3", 0).define("Ba=+a+aa", 1).askNumber(".BA", 9).count(3, 2);
        d.count(5, 1).count(6, 2).define("Ca=:a:an", 1).ask(".CA", Driver.PAIR).head(3).count(3, 2);
        d.tail(Driver.PAIR).head(3).count(3, 2).count(5, 3).count(6, 3);
        d.ask(":A1", Driver.PAIR).head(3).define("A=4", 0).head(3).remove(0).head(3).count(3, 1).count(5, 4).count(6, 5);
    }

    @Says("FORCING a CLOSURE: the first time its EXPRESSION is worked out,")
    static void worksOutOnlyWhatIsNeeded() {
        Driver d = new Driver().define("Aab=a", 2).define("B=B", 0);
        d.askNumber("..A1/10", 1).askNumber("..A1B", 1).askNumber("..A1F", 1).count(5, 3).count(6, 0);
        d.ask(":/10B", Driver.PAIR).count(5, 3).askNumber("h:1B", 1).count(3, 0);
    }

    @Says("later it gives that.")
    static void startsAnewWithEachAsking() {
        Driver d = new Driver().define("A=+12", 0).define("Ba=+aa", 1);
        for (int i = 1; i <= 5; i++) {
            d.askNumber(".BA", 6).count(3, 2).count(4, 2 * i).count(5, i).count(6, i);
        }
    }

    /** No text makes a CLOSURE that knows itself, but what needs itself by its NAME ends in the same way. */
    @Says("FORCED while it's being worked out: a LOOP: IllegalStateException.")
    static void endsWhatNeedsItself() {
        new Driver().define("A=:hAA", 0).ask("A", Driver.PAIR).headThrows(Driver.STATE).hasNoResult();
        new Driver().define("A=:1tA", 0).ask("A", Driver.PAIR).tailThrows(Driver.STATE).hasNoResult();
        new Driver().define("Aa=+ha1", 1).define("B=:.ABn", 0).ask("B", Driver.PAIR).headThrows(Driver.STATE).hasNoResult();
        new Driver().define("Aab=..bab", 2).askThrows("..AAA", Driver.STATE).hasNoResult();
        new Driver().define("Aa=a", 1).define("B=.AB", 0).askThrows("B", Driver.STATE).askThrows("+1.AB", Driver.STATE);
        new Driver().define("Aa=.aa", 1).askThrows(".AA", Driver.STATE).define("Ba=.a.Ba", 1).askThrows(".BA", Driver.STATE);
    }
}
