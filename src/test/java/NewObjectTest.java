/** Promise 1: a new object has no DEFINITIONS and no RESULT. */
public final class NewObjectTest {
    public static void main(String[] args) {
        countsNothing();
        hasNoResult();
        hasNoDefinitions();
        sharesNothing();
        Driver.end();
    }

    private static void countsNothing() {
        Driver d = new Driver().count(0, -1);
        for (int what = 1; what <= 7; what++) {
            d.count(what, 0);
        }
    }

    private static void hasNoResult() {
        new Driver().numberThrows(Driver.MISSING);
        new Driver().headThrows(Driver.MISSING);
        new Driver().tailThrows(Driver.MISSING);
    }

    private static void hasNoDefinitions() {
        for (int name = 0; name < 6; name++) {
            new Driver().removeThrows(name, Driver.MISSING);
            new Driver().askThrows(String.valueOf((char) ('A' + name)), Driver.MISSING);
        }
    }

    private static void sharesNothing() {
        Driver one = new Driver().define("A=5", 0).askNumber("A", 5).typeText("12");
        new Driver().count(1, 0).count(2, 0).numberThrows(Driver.MISSING).askThrows("A", Driver.MISSING);
        one.count(1, 2).count(2, 1).number(5);
    }
}
