/** Promise 7: tail. */
public final class TailTest {
    public static void main(String[] args) {
        givesTheNewResult();
        forcesItOnce();
        refusesWhatHasNoTail();
        hasNoResultWhenItThrows();
        goesOnWithTheAsking();
        Driver.end();
    }

    private static void givesTheNewResult() {
        Driver d = new Driver().define("Aab=a", 2).define("Ba=:a.B+a1", 1);
        d.ask(":1:2n", Driver.PAIR).tail(Driver.PAIR).head(2).tail(Driver.NIL).numberThrows(Driver.UNSUPPORTED);
        d.ask(":19", Driver.PAIR).tail(Driver.NUMBER).number(9);
        d.ask(":1.A1", Driver.PAIR).tail(Driver.FUNCTION).numberThrows(Driver.UNSUPPORTED);
        d.ask(":1.B4", Driver.PAIR).tail(Driver.PAIR).tail(Driver.PAIR).tail(Driver.PAIR).head(6);
    }

    private static void forcesItOnce() {
        Driver d = new Driver().define("Aa=:+ha0a", 1).ask(".A:1:2n", Driver.PAIR).tail(Driver.PAIR).count(5, 1).count(6, 0);
        d.tail(Driver.PAIR).count(5, 2).count(6, 0).head(2).count(5, 3);
        d = new Driver().define("Aa=:haa", 1).ask(".A:12", Driver.PAIR).head(1).count(5, 3).count(6, 0);
        d.tail(Driver.PAIR).count(5, 3).count(6, 1).head(1).count(5, 3).count(6, 2);
    }

    private static void refusesWhatHasNoTail() {
        new Driver().tailThrows(Driver.MISSING);
        new Driver().ask("n", Driver.NIL).tailThrows(Driver.MISSING);
        new Driver().ask("1", Driver.NUMBER).tailThrows(Driver.UNSUPPORTED);
        new Driver().define("Aa=a", 1).ask("A", Driver.FUNCTION).tailThrows(Driver.UNSUPPORTED);
    }

    private static void hasNoResultWhenItThrows() {
        new Driver().ask("n", Driver.NIL).tailThrows(Driver.MISSING).hasNoResult();
        new Driver().ask("1", Driver.NUMBER).tailThrows(Driver.UNSUPPORTED).hasNoResult();
        new Driver().ask(":1/10", Driver.PAIR).tailThrows(Driver.ARITHMETIC).hasNoResult();
        new Driver().ask(":1F", Driver.PAIR).tailThrows(Driver.MISSING).hasNoResult();
        new Driver().ask(":1+n1", Driver.PAIR).tailThrows(Driver.UNSUPPORTED).hasNoResult();
        new Driver().define("A=A", 0).ask(":1A", Driver.PAIR).tailThrows(Driver.STATE).hasNoResult();
    }

    private static void goesOnWithTheAsking() {
        Driver d = new Driver().define("A=:1A", 0).ask("A", Driver.PAIR).count(3, 1).count(7, 2);
        d.tail(Driver.PAIR).tail(Driver.PAIR).count(3, 3).count(4, 3).count(7, 2);
        d.ask("A", Driver.PAIR).count(3, 1).count(4, 4);
        Driver e = new Driver().define("A=:1A", 0).ask("A", Driver.PAIR);
        for (int i = 2; i <= 400; i++) {
            e.tail(Driver.PAIR);
        }
        e.count(3, 400).head(1).tailThrows(Driver.STATE).count(3, 400).count(4, 400).count(7, 2);
    }
}
