/** Promise 1: A new object. */
public final class Promise1NewObjectTest {
    public static void main(String[] args) throws ReflectiveOperationException {
        Sentences.run(Promise1NewObjectTest.class);
    }

    @Says("No DEFINITIONS,")
    static void hasNoDefinitions() {
        new Driver().count(2, 0);
        for (int name = 0; name < 6; name++) {
            String asked = String.valueOf((char) ('A' + name));
            new Driver().removeThrows(name, Driver.MISSING).count(2, 0);
            new Driver().askThrows(asked, Driver.MISSING);
            new Driver().askThrows("." + asked + "1", Driver.MISSING);
        }
    }

    @Says("no RESULT.")
    static void hasNoResult() {
        new Driver().numberThrows(Driver.MISSING);
        new Driver().headThrows(Driver.MISSING);
        new Driver().tailThrows(Driver.MISSING);
        new Driver().badAsk("", 0).hasNoResult();
    }

    @Says({"No DEFINITIONS,", "no RESULT."})
    static void hasNoTextAndHasDoneNothing() {
        Driver d = new Driver().count(0, -1);
        for (int what = 1; what <= 7; what++) {
            d.count(what, 0);
        }
        new Driver().badDefine("", 0);
        new Driver().badAsk("", 0);
    }

    @Says({"No DEFINITIONS,", "no RESULT."})
    static void sharesNothingWithAnotherObject() {
        Driver one = new Driver().define("A=5", 0).badAsk("A5", 1).askNumber("A", 5).typeText("12");
        Driver two = new Driver().count(0, -1).count(1, 0).count(2, 0).count(4, 0).hasNoResult();
        two.removeThrows(0, Driver.MISSING).askThrows("A", Driver.MISSING).define("A=7", 0).askNumber("A", 7);
        one.count(0, 1).count(1, 2).count(2, 1).count(4, 1).number(5).badAsk("", 1).askNumber("A", 5);
    }
}
