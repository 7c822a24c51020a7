/** Terms: CLOSURES and FORCING: what is not needed is not worked out, what is needed is worked out once. */
public final class ClosureTest {
    public static void main(String[] args) {
        worksOutOnlyWhatIsNeeded();
        worksOutOnce();
        handsParametersOnAsTheyAre();
        keepsParametersAsTheyWere();
        makesOneOfEveryOtherExpression();
        usesTheDefinitionsOfThen();
        staysWhenDefinitionsGo();
        startsAnewWithEachAsking();
        goesOnForEver();
        Driver.end();
    }

    private static void worksOutOnlyWhatIsNeeded() {
        Driver d = new Driver().define("Aab=a", 2).define("B=B", 0);
        d.askNumber("..A1/10", 1).askNumber("..A1B", 1).askNumber("..A1F", 1).count(5, 3).count(6, 0);
        d.ask(":/10B", Driver.PAIR).count(5, 3).askNumber("h:1B", 1).count(3, 0);
    }

    private static void worksOutOnce() {
        Driver d = new Driver().define("A=3", 0).define("Ba=+a+aa", 1).askNumber(".BA", 9).count(3, 2);
        d.count(5, 1).count(6, 2).define("Ca=:a:an", 1).ask(".CA", Driver.PAIR).head(3).count(3, 2);
        d.tail(Driver.PAIR).head(3).count(3, 2).count(5, 3).count(6, 3);
    }

    private static void handsParametersOnAsTheyAre() {
        Driver d = new Driver().define("Aa=+aa", 1).define("Ba=.Aa", 1).define("Ca=.Ba", 1);
        d.askNumber(".C+12", 6).count(3, 3).count(5, 1).count(6, 1);
        d = new Driver().define("Aa=:aa", 1).ask(".A+12", Driver.PAIR).head(3).count(5, 1).count(6, 0);
        d.tail(Driver.NUMBER).count(5, 1).count(6, 1);
    }

    private static void keepsParametersAsTheyWere() {
        Driver d = new Driver().define("Aab=:-ab..A*a2b", 2).ask("..A53", Driver.PAIR).tail(Driver.PAIR);
        d.head(7).tail(Driver.PAIR).head(17).ask(":..A12..A34", Driver.PAIR).tail(Driver.PAIR).head(-1);
        d.define("Ba=.Da", 1).define("Dab=-ab", 2).askNumber("..B94", 5).define("Eab=.b-a1", 2);
        d.askNumber("..E7.D9", 3).askNumber("..E7.B2", -4);
    }

    private static void makesOneOfEveryOtherExpression() {
        Driver d = new Driver().define("Aa=+aa", 1).askNumber(".A1", 2).count(5, 1).count(6, 1).count(7, 4);
        d.define("B=4", 0).askNumber(".AB", 8).count(3, 2).count(5, 2).count(6, 2).count(7, 5);
        d.define("Ca=za", 1).askNumber(".Cn", 1).count(5, 3).count(7, 4);
    }

    private static void usesTheDefinitionsOfThen() {
        Driver d = new Driver().define("A=1", 0).define("B=:A:AB", 0).ask("B", Driver.PAIR).define("A=2", 0).head(2);
        d.define("A=3", 0).head(2).tail(Driver.PAIR).head(3).define("B=:9n", 0).tail(Driver.PAIR).head(9);
        d.tail(Driver.NIL);
        d = new Driver().ask(":AA", Driver.PAIR).define("A=7", 0).head(7).remove(0).head(7).tailThrows(Driver.MISSING);
        d = new Driver().ask(":.A1n", Driver.PAIR).define("Aa=+a4", 1).head(5);
    }

    private static void staysWhenDefinitionsGo() {
        Driver d = new Driver().define("Aab=:+ab:*ab-ab", 2).ask("..A73", Driver.PAIR).remove(0).head(10);
        d.define("Aab=0", 2).tail(Driver.PAIR).head(21).define("A=0", 0).tail(Driver.NUMBER).number(4);
    }

    private static void startsAnewWithEachAsking() {
        Driver d = new Driver().define("A=+12", 0).define("Ba=+aa", 1);
        for (int i = 1; i <= 5; i++) {
            d.askNumber(".BA", 6).count(3, 2).count(4, 2 * i).count(5, i).count(6, i);
        }
    }

    private static void goesOnForEver() {
        Driver d = new Driver().define("Aa=:a.A+a1", 1).define("Bab=?=a0hb..B-a1tb", 2);
        d.askNumber("..B5.A3", 8).ask(".A0", Driver.PAIR);
        for (int i = 0; i < 50; i++) {
            d.head(i).tail(Driver.PAIR);
        }
    }
}
