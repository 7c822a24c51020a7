/** Promise 8: remove. */
public final class RemoveTest {
    public static void main(String[] args) {
        takesEachNameAway();
        refusesOtherNumbers();
        refusesNamesWithoutDefinition();
        leavesTheResult();
        Driver.end();
    }

    private static void takesEachNameAway() {
        for (int name = 0; name < 6; name++) {
            Driver d = allDefined();
            d.remove(name).count(2, 5);
            for (int other = 0; other < 6; other++) {
                String asked = String.valueOf((char) ('A' + other));
                if (other == name) {
                    d.askThrows(asked, Driver.MISSING);
                } else {
                    d.askNumber(asked, other + 1);
                }
            }
            d.removeThrows(name, Driver.MISSING).count(2, 5);
        }
    }

    private static Driver allDefined() {
        return new Driver().define("A=1", 0).define("B=2", 0).define("C=3", 0).define("D=4", 0).define("E=5", 0)
                .define("F=6", 0);
    }

    private static void refusesOtherNumbers() {
        int[] wrong = {-1, 6, 7, 65, 'A', Integer.MIN_VALUE, Integer.MAX_VALUE};
        for (int name : wrong) {
            allDefined().removeThrows(name, Driver.BAD).count(2, 6).count(0, -1);
        }
    }

    private static void refusesNamesWithoutDefinition() {
        new Driver().define("A=1", 0).removeThrows(1, Driver.MISSING).remove(0).removeThrows(0, Driver.MISSING)
                .define("A=2", 0).askNumber("A", 2).remove(0).count(2, 0);
    }

    private static void leavesTheResult() {
        Driver d = new Driver().define("A=:1:2A", 0).ask("A", Driver.PAIR).remove(0).head(1).tail(Driver.PAIR).head(2);
        d.removeThrows(0, Driver.MISSING).head(2).tailThrows(Driver.MISSING).headThrows(Driver.MISSING);
        new Driver().askNumber("3", 3).removeThrows(9, Driver.BAD).number(3).removeThrows(0, Driver.MISSING).number(3);
    }
}
