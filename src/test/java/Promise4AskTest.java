/** Promise 4: ask. */
public final class Promise4AskTest {
    public static void main(String[] args) throws ReflectiveOperationException {
        Sentences.run(Promise4AskTest.class);
    }

    @Says("Answers 0 for a NUMBER, 1 NIL, 2 a PAIR, 3 a FUNCTION.")
    static void answersTheKind() {
        Driver d = new Driver().define("A=1", 0).define("Ba=a", 1).define("Cab=b", 2);
        d.ask("0", 0).ask("7", 0).ask("-01", 0).ask("n", 1).ask(":1n", 2).ask("B", 3);
        d.ask("A", 0).ask(".Bn", 1).ask(".B:nn", 2).ask(".C1", 3).ask("..C1B", 3).ask(".BC", 3).ask("t:1n", 1);
    }

    @Says({"The text,", "is read as an EXPRESSION"})
    static void refusesAnEmptyText() {
        new Driver().badAsk("", 0);
        new Driver().askNumber("1", 1).badAsk("", 0).number(1).badAsk("", 0).type(0L, 0).badAsk("", 0).number(1);
        new Driver().define("A=1", 0).badAsk("", 0).badAsk("1x", 1).badAsk("", 0);
    }

    @Says("empty then in any case,")
    static void emptiesTheTextItHasRead() {
        new Driver().typeText("+1").typeText("2").count(1, 3).askNumber("", 3).count(1, 0).badAsk("", 0);
        new Driver().askNumber("1", 1).askNumber("2", 2).ask("n", Driver.NIL).count(1, 0);
    }

    @Says("empty then in any case,")
    static void emptiesTheTextItCannotRead() {
        new Driver().badAsk("1x", 1).count(1, 0).askNumber("2", 2).badAsk("+", 1).count(1, 0).askNumber("2", 2);
        new Driver().typeText("1".repeat(40)).badAsk("", 1).count(1, 0).type(Driver.pack("3"), 1).askNumber("", 3);
    }

    @Says("empty then in any case,")
    static void emptiesTheTextWhenWorkingOutThrows() {
        Driver d = new Driver().define("A=A", 0);
        d.askThrows("/10", Driver.ARITHMETIC).count(1, 0).askThrows("F", Driver.MISSING).count(1, 0);
        d.askThrows("+n1", Driver.UNSUPPORTED).count(1, 0).askThrows("A", Driver.STATE).count(1, 0).askNumber("2", 2);
    }

    @Says("without PARAMETERS (one is a wrong character)")
    static void takesNoParameter() {
        for (char parameter = 'a'; parameter <= 'f'; parameter++) {
            new Driver().badAsk(String.valueOf(parameter), 0).badAsk("+1" + parameter, 2).badAsk("?1" + parameter + "2", 2);
            new Driver().define("A" + parameter + "=" + parameter, 1).badAsk(".A" + parameter, 2).badAsk(parameter + "=1", 0);
        }
        new Driver().define("Aab=+ab", 2).badAsk("+ab", 1).badAsk("A=1", 1).badAsk("Aab=+ab", 1);
    }

    @Says("and ASKED;")
    static void worksItOut() {
        Driver d = new Driver().define("Aab=*a+b1", 2);
        d.askNumber("..A67", 48).count(3, 1).count(5, 2).count(7, 5).askNumber("*..A12..A34", 45).count(3, 2).count(4, 3);
    }

    @Says("when it can't be read THE RESULT stays.")
    static void keepsTheResultWhenItCannotBeRead() {
        String[] wrong = {"", "x", "a", "+1", "11", "?11", ".", "G", "z".repeat(12) + "n"};
        for (String text : wrong) {
            new Driver().askNumber("6", 6).askThrows(text, Driver.BAD).number(6);
            new Driver().ask("n", Driver.NIL).askThrows(text, Driver.BAD).headThrows(Driver.MISSING);
            new Driver().ask(":1:2n", Driver.PAIR).askThrows(text, Driver.BAD).head(1).tail(Driver.PAIR).head(2);
            new Driver().define("Aa=a", 1).ask("A", Driver.FUNCTION).askThrows(text, Driver.BAD).numberThrows(Driver.UNSUPPORTED);
            new Driver().askThrows(text, Driver.BAD).hasNoResult();
        }
    }

    @Says("when it can't be read THE RESULT stays.")
    static void goesOnWithTheSameAskingWhenItCannotBeRead() {
        Driver d = new Driver().define("A=:+11A", 0).ask("A", Driver.PAIR).head(2).tail(Driver.PAIR);
        d.badAsk("A1", 1).count(3, 2).count(4, 2).count(5, 2).count(6, 0).count(7, 2).head(2).tail(Driver.PAIR).count(3, 3);
    }

    @Says("and ASKED;")
    static void hasNoResultWhenItThrows() {
        Driver d = new Driver().define("A=A", 0).define("Ba=a", 1);
        d.askNumber("6", 6).askThrows("/10", Driver.ARITHMETIC).hasNoResult();
        d.ask(":12", Driver.PAIR).askThrows("F", Driver.MISSING).hasNoResult();
        d.ask(":12", Driver.PAIR).askThrows("hn", Driver.MISSING).hasNoResult();
        d.ask("n", Driver.NIL).askThrows("+1n", Driver.UNSUPPORTED).hasNoResult();
        d.ask("B", Driver.FUNCTION).askThrows(".11", Driver.UNSUPPORTED).hasNoResult();
        d.ask("n", Driver.NIL).askThrows("t1", Driver.UNSUPPORTED).hasNoResult();
        d.ask(":12", Driver.PAIR).askThrows("A", Driver.STATE).hasNoResult().badAsk("", 0).hasNoResult();
    }

    @Says("and ASKED;")
    static void throwsWhatWorkingOutThrows() {
        Driver d = new Driver().define("A=A", 0).define("Ba=a", 1);
        d.askThrows("A", Driver.STATE).askThrows(".A1", Driver.STATE).askThrows("D", Driver.MISSING);
        d.askThrows("+B1", Driver.UNSUPPORTED).askThrows(".BD", Driver.MISSING).askThrows("%10", Driver.ARITHMETIC);
        d.askThrows(".B/10", Driver.ARITHMETIC).askThrows("z.B1", Driver.UNSUPPORTED).askThrows("h.Bn", Driver.MISSING);
    }
}
