/** Promise 4: ask. */
public final class AskTest {
    public static void main(String[] args) {
        answersTheKind();
        emptiesTheText();
        keepsTheResultWhenItCannotBeRead();
        hasNoResultWhenItThrows();
        takesNoParameter();
        throwsWhatWorkingOutThrows();
        Driver.end();
    }

    private static void answersTheKind() {
        Driver d = new Driver().define("A=1", 0).define("Ba=a", 1).define("Cab=b", 2);
        d.ask("0", Driver.NUMBER).ask("n", Driver.NIL).ask(":1n", Driver.PAIR).ask("B", Driver.FUNCTION);
        d.ask("A", Driver.NUMBER).ask(".Bn", Driver.NIL).ask(".B:nn", Driver.PAIR).ask(".C1", Driver.FUNCTION);
        d.ask("..C1B", Driver.FUNCTION).ask(".BC", Driver.FUNCTION);
    }

    private static void emptiesTheText() {
        new Driver().ask("1", Driver.NUMBER).count(1, 0).badAsk("", 0);
        new Driver().badAsk("1x", 1).count(1, 0).askNumber("2", 2);
        new Driver().askThrows("/10", Driver.ARITHMETIC).count(1, 0).askNumber("2", 2);
    }

    private static void keepsTheResultWhenItCannotBeRead() {
        new Driver().askNumber("6", 6).badAsk("x", 0).number(6).badAsk("", 0).number(6);
        Driver d = new Driver().define("A=:1A", 0).ask("A", Driver.PAIR).tail(Driver.PAIR);
        d.badAsk("A1", 1).count(3, 2).count(7, 2).head(1).tail(Driver.PAIR).count(3, 3);
    }

    private static void hasNoResultWhenItThrows() {
        String[] asked = {"F", "/10", "+1n", "hn", "t1", ".11"};
        for (String text : asked) {
            Driver d = new Driver().askNumber("6", 6);
            d.askThrows(text, dueFor(text)).hasNoResult();
        }
    }

    private static Class<? extends RuntimeException> dueFor(String text) {
        switch (text) {
            case "F":
            case "hn":
                return Driver.MISSING;
            case "/10":
                return Driver.ARITHMETIC;
            default:
                return Driver.UNSUPPORTED;
        }
    }

    private static void takesNoParameter() {
        for (char parameter = 'a'; parameter <= 'f'; parameter++) {
            new Driver().badAsk(String.valueOf(parameter), 0).badAsk("+1" + parameter, 2);
        }
    }

    private static void throwsWhatWorkingOutThrows() {
        Driver d = new Driver().define("A=A", 0).define("Ba=a", 1);
        d.askThrows("A", Driver.STATE).askThrows(".A1", Driver.STATE).askThrows("D", Driver.MISSING);
        d.askThrows("+B1", Driver.UNSUPPORTED).askThrows(".BD", Driver.MISSING).askThrows("%10", Driver.ARITHMETIC);
    }
}
