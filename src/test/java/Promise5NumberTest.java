/** Promise 5: number. */
public final class Promise5NumberTest {
    public static void main(String[] args) throws ReflectiveOperationException {
        Sentences.run(Promise5NumberTest.class);
    }

    @Says("THE RESULT, if it's a NUMBER.")
    static void answersTheNumber() {
        for (int digit = 0; digit <= 9; digit++) {
            new Driver().ask(String.valueOf(digit), Driver.NUMBER).number(digit).number(digit);
        }
        new Driver().ask("-09", Driver.NUMBER).number(-9).count(3, 0).count(5, 0).count(6, 0).count(7, 2);
        new Driver().ask(":17", Driver.PAIR).tail(Driver.NUMBER).number(7);
    }

    @Says("THE RESULT, if it's a NUMBER.")
    static void answersTheSmallestAndTheLargest() {
        Driver d = new Driver().define("Aa=*aa", 1).define("B=.A.A4", 0).define("C=*B*B*B*8*44", 0);
        d.askNumber("C", Integer.MIN_VALUE).askNumber("-C1", Integer.MAX_VALUE).askNumber("-0-C1", -Integer.MAX_VALUE);
        d.ask(":1C", Driver.PAIR).tail(Driver.NUMBER).number(Integer.MIN_VALUE).number(Integer.MIN_VALUE);
    }

    @Says("None: NoSuchElementException;")
    static void hasNoneAtFirst() {
        new Driver().numberThrows(Driver.MISSING).numberThrows(Driver.MISSING);
        new Driver().define("A=1", 0).numberThrows(Driver.MISSING).badAsk("x", 0).numberThrows(Driver.MISSING);
    }

    @Says("None: NoSuchElementException;")
    static void hasNoneAfterAThrow() {
        new Driver().askNumber("1", 1).askThrows("/10", Driver.ARITHMETIC).numberThrows(Driver.MISSING);
        new Driver().askNumber("1", 1).headThrows(Driver.UNSUPPORTED).numberThrows(Driver.MISSING);
        new Driver().askNumber("1", 1).tailThrows(Driver.UNSUPPORTED).numberThrows(Driver.MISSING);
        new Driver().ask(":1F", Driver.PAIR).tailThrows(Driver.MISSING).numberThrows(Driver.MISSING);
    }

    @Says("else UnsupportedOperationException.")
    static void refusesWhatIsNoNumber() {
        new Driver().ask("n", Driver.NIL).numberThrows(Driver.UNSUPPORTED);
        new Driver().ask(":12", Driver.PAIR).numberThrows(Driver.UNSUPPORTED);
        new Driver().define("Aa=a", 1).ask("A", Driver.FUNCTION).numberThrows(Driver.UNSUPPORTED);
        new Driver().ask(":1n", Driver.PAIR).tail(Driver.NIL).numberThrows(Driver.UNSUPPORTED);
    }

    /** Only ask, head and tail leave no RESULT when they throw. */
    @Says("else UnsupportedOperationException.")
    static void leavesTheResultWhenItRefuses() {
        new Driver().ask("n", Driver.NIL).numberThrows(Driver.UNSUPPORTED).numberThrows(Driver.UNSUPPORTED);
        new Driver().ask(":12", Driver.PAIR).numberThrows(Driver.UNSUPPORTED).head(1).tail(Driver.NUMBER).number(2);
        new Driver().define("Aa=a", 1).ask("A", Driver.FUNCTION).numberThrows(Driver.UNSUPPORTED)
                .numberThrows(Driver.UNSUPPORTED);
    }
}
