/** Promise 8: remove. */
public final class Promise8RemoveTest {
    public static void main(String[] args) throws ReflectiveOperationException {
        Sentences.run(Promise8RemoveTest.class);
    }

    private static Driver allDefined() {
        return new Driver().define("A=1", 0).define("B=2", 0).define("C=3", 0).define("D=4", 0).define("E=5", 0)
                .define("F=6", 0);
    }

    @Says("Takes the DEFINITION of the NAME (0 A .. 5 F) away.")
    static void takesEachNameAway() {
        for (int name = 0; name < 6; name++) {
            Driver d = allDefined().remove(name).count(2, 5);
            for (int other = 0; other < 6; other++) {
                String asked = String.valueOf((char) ('A' + other));
                if (other == name) {
                    d.askThrows(asked, Driver.MISSING);
                } else {
                    d.askNumber(asked, other + 1);
                }
            }
        }
    }

    @Says("Takes the DEFINITION of the NAME (0 A .. 5 F) away.")
    static void takesAllAway() {
        Driver d = allDefined();
        for (int name = 5; name >= 0; name--) {
            d.remove(name).count(2, name);
        }
        d.define("D=8", 0).count(2, 1).askNumber("D", 8).remove(3).count(2, 0);
    }

    @Says({"Takes the DEFINITION of the NAME (0 A .. 5 F) away.", "a number out of range;"})
    static void refusesNumbersOutOfRange() {
        int[] wrong = {-1, 6, 7, 64, 'A', 'a', 256, -256, Integer.MIN_VALUE, Integer.MAX_VALUE};
        for (int name : wrong) {
            allDefined().removeThrows(name, Driver.BAD).count(2, 6);
            new Driver().removeThrows(name, Driver.BAD).count(2, 0).count(0, -1);
        }
    }

    @Says("None: NoSuchElementException.")
    static void refusesNamesWithoutDefinition() {
        for (int name = 0; name < 6; name++) {
            new Driver().removeThrows(name, Driver.MISSING).count(2, 0);
            allDefined().remove(name).removeThrows(name, Driver.MISSING).removeThrows(name, Driver.MISSING).count(2, 5);
        }
        new Driver().badDefine("A=", 2).removeThrows(0, Driver.MISSING).define("A=1", 0).removeThrows(1, Driver.MISSING)
                .remove(0).removeThrows(0, Driver.MISSING).define("A=2", 0).askNumber("A", 2).remove(0).count(2, 0);
    }

    /** No older DEFINITION of the NAME comes to light again. */
    @Says("Takes the DEFINITION of the NAME (0 A .. 5 F) away.")
    static void takesTheLatestAwayForGood() {
        new Driver().define("A=1", 0).define("A=2", 0).remove(0).askThrows("A", Driver.MISSING).removeThrows(0, Driver.MISSING);
    }

    @Says("Takes the DEFINITION of the NAME (0 A .. 5 F) away.")
    static void changesNothingElse() {
        Driver d = new Driver().define("A=:1:2n", 0).badAsk("A1", 1).ask("A", Driver.PAIR).typeText("+1").remove(0).head(1);
        d.removeThrows(0, Driver.MISSING).removeThrows(6, Driver.BAD).removeThrows(-1, Driver.BAD).tail(Driver.PAIR).head(2);
        d.count(0, 1).count(1, 2).count(3, 1).count(4, 1).count(5, 3).count(6, 0).count(7, 2).askNumber("4", 5);
    }
}
