/** Promise 5: number. */
public final class NumberTest {
    public static void main(String[] args) {
        answersTheNumber();
        refusesWhatIsNoNumber();
        Driver.end();
    }

    private static void answersTheNumber() {
        for (int digit = 0; digit <= 9; digit++) {
            new Driver().ask(String.valueOf(digit), Driver.NUMBER).number(digit).number(digit);
        }
        new Driver().ask("-09", Driver.NUMBER).number(-9).count(3, 0).count(5, 0).count(6, 0);
        new Driver().ask(":17", Driver.PAIR).tail(Driver.NUMBER).number(7);
    }

    /** Unlike ask, head and tail, number leaves THE RESULT when it throws. */
    private static void refusesWhatIsNoNumber() {
        new Driver().numberThrows(Driver.MISSING);
        new Driver().ask("n", Driver.NIL).numberThrows(Driver.UNSUPPORTED).numberThrows(Driver.UNSUPPORTED);
        new Driver().ask(":12", Driver.PAIR).numberThrows(Driver.UNSUPPORTED).head(1).tail(Driver.NUMBER).number(2);
        new Driver().define("Aa=a", 1).ask("A", Driver.FUNCTION).numberThrows(Driver.UNSUPPORTED)
                .numberThrows(Driver.UNSUPPORTED);
    }
}
