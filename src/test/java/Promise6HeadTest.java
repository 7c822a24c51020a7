/** Promise 6: head. */
public final class Promise6HeadTest {
    public static void main(String[] args) throws ReflectiveOperationException {
        Sentences.run(Promise6HeadTest.class);
    }

    @Says("Answers that.")
    static void answersTheHead() {
        new Driver().ask(":4n", Driver.PAIR).head(4).head(4);
        new Driver().ask(":-03/10", Driver.PAIR).head(-3).tailThrows(Driver.ARITHMETIC);
        new Driver().ask(":0F", Driver.PAIR).head(0);
    }

    @Says("FORCES the head of THE RESULT.")
    static void forcesItOnce() {
        Driver d = new Driver().define("A=5", 0).ask(":AA", Driver.PAIR).count(3, 0).count(5, 0).count(6, 0);
        d.head(5).count(3, 1).count(4, 1).count(5, 1).count(6, 0);
        d.head(5).count(3, 1).count(4, 1).count(5, 1).count(6, 1);
        d.head(5).count(3, 1).count(5, 1).count(6, 2).tail(Driver.NUMBER).count(3, 2).count(5, 2).count(6, 2);
    }

    @Says("FORCES the head of THE RESULT.")
    static void leavesTheResult() {
        Driver d = new Driver().ask(":1:2n", Driver.PAIR).head(1).head(1).tail(Driver.PAIR).head(2).head(2).tail(Driver.NIL);
        d.ask(":3:4n", Driver.PAIR).head(3).numberThrows(Driver.UNSUPPORTED).head(3);
    }

    /** No working out stands round it: the head's EXPRESSION is at depth 1 again. */
    @Says("FORCES the head of THE RESULT.")
    static void startsAtDepthOne() {
        Driver d = new Driver().ask(":7:+12n", Driver.PAIR).count(7, 1).head(7).count(7, 1);
        d.tail(Driver.PAIR).count(7, 1).head(3).count(7, 2).head(3).count(7, 2);
        new Driver().define("F=:hFF", 0).ask("F", Driver.PAIR).headThrows(Driver.STATE).count(3, 60).count(7, 60);
    }

    @Says("No RESULT, or NIL: NoSuchElementException;")
    static void refusesNoResultAndNil() {
        new Driver().headThrows(Driver.MISSING).headThrows(Driver.MISSING);
        new Driver().ask("n", Driver.NIL).headThrows(Driver.MISSING).count(5, 0);
        new Driver().ask(":1n", Driver.PAIR).tail(Driver.NIL).headThrows(Driver.MISSING).count(5, 1);
        new Driver().askThrows("F", Driver.MISSING).headThrows(Driver.MISSING);
    }

    @Says("no PAIR, or the head is no NUMBER: UnsupportedOperationException.")
    static void refusesWhatIsNoPair() {
        new Driver().ask("1", Driver.NUMBER).headThrows(Driver.UNSUPPORTED);
        new Driver().ask("0", Driver.NUMBER).headThrows(Driver.UNSUPPORTED);
        new Driver().define("Aa=a", 1).ask("A", Driver.FUNCTION).headThrows(Driver.UNSUPPORTED).count(5, 0);
    }

    @Says("no PAIR, or the head is no NUMBER: UnsupportedOperationException.")
    static void refusesAHeadThatIsNoNumber() {
        new Driver().ask(":n1", Driver.PAIR).headThrows(Driver.UNSUPPORTED).count(5, 1);
        new Driver().ask("::121", Driver.PAIR).headThrows(Driver.UNSUPPORTED).count(5, 1);
        new Driver().define("Aa=a", 1).ask(":A1", Driver.PAIR).headThrows(Driver.UNSUPPORTED).count(5, 1);
    }

    @Says("FORCES the head of THE RESULT.")
    static void throwsWhatForcingThrows() {
        new Driver().ask(":/10n", Driver.PAIR).headThrows(Driver.ARITHMETIC);
        new Driver().ask(":Fn", Driver.PAIR).headThrows(Driver.MISSING);
        new Driver().ask(":hnn", Driver.PAIR).headThrows(Driver.MISSING);
        new Driver().ask(":+1nn", Driver.PAIR).headThrows(Driver.UNSUPPORTED);
        new Driver().define("A=A", 0).ask(":An", Driver.PAIR).headThrows(Driver.STATE);
    }

    @Says({"No RESULT, or NIL: NoSuchElementException;",
        "no PAIR, or the head is no NUMBER: UnsupportedOperationException."})
    static void hasNoResultWhenItThrows() {
        new Driver().ask("n", Driver.NIL).headThrows(Driver.MISSING).hasNoResult();
        new Driver().ask("1", Driver.NUMBER).headThrows(Driver.UNSUPPORTED).hasNoResult();
        new Driver().define("Aa=a", 1).ask("A", Driver.FUNCTION).headThrows(Driver.UNSUPPORTED).hasNoResult();
        new Driver().ask("::12n", Driver.PAIR).headThrows(Driver.UNSUPPORTED).hasNoResult();
        new Driver().ask(":/10n", Driver.PAIR).headThrows(Driver.ARITHMETIC).hasNoResult();
        new Driver().ask(":Fn", Driver.PAIR).headThrows(Driver.MISSING).hasNoResult();
        new Driver().define("A=A", 0).ask(":An", Driver.PAIR).headThrows(Driver.STATE).hasNoResult();
    }
}
