/** Promise 7: tail. */
public final class Promise7TailTest {
    public static void main(String[] args) throws ReflectiveOperationException {
        Sentences.run(Promise7TailTest.class);
    }

    @Says("what it gives is THE RESULT.")
    static void givesTheNewResult() {
        Driver d = new Driver().define("Aab=a", 2).define("Ba=:a.B+a1", 1);
        d.ask(":1:2n", Driver.PAIR).tail(Driver.PAIR).head(2).tail(Driver.NIL).numberThrows(Driver.UNSUPPORTED);
        d.ask(":19", Driver.PAIR).tail(Driver.NUMBER).number(9);
        d.ask(":1.A1", Driver.PAIR).tail(Driver.FUNCTION).numberThrows(Driver.UNSUPPORTED);
        d.ask(":1.B4", Driver.PAIR).tail(Driver.PAIR).tail(Driver.PAIR).tail(Driver.PAIR).head(6);
    }

    @Says("Answers as ask.")
    static void answersTheKind() {
        Driver d = new Driver().define("Aa=a", 1);
        d.ask(":9-01", 2).tail(0).ask(":9n", 2).tail(1).ask(":9:99", 2).tail(2).ask(":9A", 2).tail(3);
    }

    @Says("FORCES the tail of THE RESULT, as head;")
    static void forcesItOnce() {
        Driver d = new Driver().define("Aa=:haa", 1).ask(".A:12", Driver.PAIR).head(1).count(5, 3).count(6, 0);
        d.tail(Driver.PAIR).count(5, 3).count(6, 1).head(1).count(5, 3).count(6, 2);
        d = new Driver().define("A=5", 0).ask(":/10A", Driver.PAIR).tail(Driver.NUMBER).count(3, 1).count(5, 1).count(6, 0);
    }

    @Says("FORCES the tail of THE RESULT, as head;")
    static void startsAtDepthOne() {
        Driver d = new Driver().ask(":7:+12+1+11", Driver.PAIR).count(7, 1);
        d.tail(Driver.PAIR).count(7, 1).tail(Driver.NUMBER).count(7, 3).number(3);
        d.define("F=:1tF", 0).ask("F", Driver.PAIR).tailThrows(Driver.STATE).count(3, 60).count(7, 60);
    }

    @Says("FORCES the tail of THE RESULT, as head;")
    static void refusesNoResultAndNil() {
        new Driver().tailThrows(Driver.MISSING).tailThrows(Driver.MISSING);
        new Driver().ask("n", Driver.NIL).tailThrows(Driver.MISSING).count(5, 0);
        new Driver().ask(":1n", Driver.PAIR).tail(Driver.NIL).tailThrows(Driver.MISSING).count(5, 1);
        new Driver().askThrows("F", Driver.MISSING).tailThrows(Driver.MISSING);
    }

    @Says("FORCES the tail of THE RESULT, as head;")
    static void refusesWhatIsNoPair() {
        new Driver().ask("1", Driver.NUMBER).tailThrows(Driver.UNSUPPORTED);
        new Driver().ask(":12", Driver.PAIR).tail(Driver.NUMBER).tailThrows(Driver.UNSUPPORTED);
        new Driver().define("Aa=a", 1).ask("A", Driver.FUNCTION).tailThrows(Driver.UNSUPPORTED);
    }

    /** Unlike a head, it may be anything. */
    @Says({"FORCES the tail of THE RESULT, as head;", "Answers as ask."})
    static void takesATailThatIsNoNumber() {
        new Driver().ask(":nn", Driver.PAIR).tail(Driver.NIL);
        new Driver().define("Aa=a", 1).ask(":nA", Driver.PAIR).tail(Driver.FUNCTION);
    }

    @Says("FORCES the tail of THE RESULT, as head;")
    static void throwsWhatForcingThrows() {
        new Driver().ask(":1/10", Driver.PAIR).tailThrows(Driver.ARITHMETIC);
        new Driver().ask(":1F", Driver.PAIR).tailThrows(Driver.MISSING);
        new Driver().ask(":1tn", Driver.PAIR).tailThrows(Driver.MISSING);
        new Driver().ask(":1+n1", Driver.PAIR).tailThrows(Driver.UNSUPPORTED);
        new Driver().define("A=A", 0).ask(":1A", Driver.PAIR).tailThrows(Driver.STATE);
    }

    @Says("FORCES the tail of THE RESULT, as head;")
    static void hasNoResultWhenItThrows() {
        new Driver().ask("n", Driver.NIL).tailThrows(Driver.MISSING).hasNoResult();
        new Driver().ask("1", Driver.NUMBER).tailThrows(Driver.UNSUPPORTED).hasNoResult();
        new Driver().define("Aa=a", 1).ask("A", Driver.FUNCTION).tailThrows(Driver.UNSUPPORTED).hasNoResult();
        new Driver().ask(":1/10", Driver.PAIR).tailThrows(Driver.ARITHMETIC).hasNoResult();
        new Driver().ask(":1F", Driver.PAIR).tailThrows(Driver.MISSING).hasNoResult();
        new Driver().ask(":1+n1", Driver.PAIR).tailThrows(Driver.UNSUPPORTED).hasNoResult();
        new Driver().define("A=A", 0).ask(":1A", Driver.PAIR).tailThrows(Driver.STATE).hasNoResult();
    }

    @Says("what it gives is THE RESULT.")
    static void goesOnWithTheAsking() {
        Driver d = new Driver().define("A=:1A", 0).ask("A", Driver.PAIR).count(3, 1).count(7, 2);
        d.tail(Driver.PAIR).tail(Driver.PAIR).count(3, 3).count(4, 3).count(7, 2);
        d.ask("A", Driver.PAIR).count(3, 1).count(4, 4);
    }
}
