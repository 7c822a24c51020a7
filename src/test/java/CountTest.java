/** Promise 9: count. */
public final class CountTest {
    public static void main(String[] args) {
        tellsThePlace();
        tellsTheLength();
        tellsTheDefinitions();
        tellsTheCalls();
        tellsTheForcedClosures();
        tellsTheDepth();
        answersNothingElse();
        Driver.end();
    }

    private static void tellsThePlace() {
        Driver d = new Driver().count(0, -1).askNumber("1", 1).count(0, -1).badAsk("+1", 2).askNumber("1", 1).count(0, 2);
        d.define("A=1", 0).count(0, 2).badDefine("A=11", 3).typeThrows(32L, Driver.BAD).count(0, 3).badAsk("", 0);
        d.askThrows("F", Driver.MISSING).count(0, 0).badDefine("Aa", 2).removeThrows(6, Driver.BAD).count(0, 2);
    }

    private static void tellsTheLength() {
        new Driver().count(1, 0).typeText("A=").count(1, 2).typeText("12345678901").count(1, 13).badDefine("", 3)
                .count(1, 0);
    }

    private static void tellsTheDefinitions() {
        new Driver().count(2, 0).define("A=1", 0).count(2, 1).define("A=2", 0).count(2, 1).define("Fa=2", 1).count(2, 2)
                .badDefine("C=", 2).count(2, 2).remove(0).count(2, 1).removeThrows(0, Driver.MISSING).count(2, 1);
    }

    private static void tellsTheCalls() {
        Driver d = new Driver().define("A=1", 0).define("Bab=+aA", 2);
        d.askNumber("+AA", 2).count(3, 2).count(4, 2).askNumber("..B4F", 5).count(3, 2).count(4, 4);
        d.ask(".B1", Driver.FUNCTION).count(3, 0).count(4, 4).ask(":AA", Driver.PAIR).head(1).count(3, 1).count(4, 5);
        d.badAsk("x", 0).count(3, 1).count(4, 5).askThrows("+A/A0", Driver.ARITHMETIC).count(3, 2).count(4, 7);
        d.headThrows(Driver.MISSING).count(3, 2).count(4, 7);
        d.define("C=+1C", 0).askThrows("C", Driver.STATE).count(3, 30).count(4, 37);
    }

    private static void tellsTheForcedClosures() {
        Driver d = new Driver().define("Aa=+aa", 1).askNumber(".A4", 8).count(5, 1).count(6, 1);
        d.askNumber(".A.A4", 16).count(5, 3).count(6, 3).define("Bab=b", 2).askNumber("..BF4", 4).count(5, 4).count(6, 3);
        d.askNumber("h:1F", 1).count(5, 5).askNumber("t:F1", 1).count(5, 6).count(6, 3);
        d.askThrows(".A/10", Driver.ARITHMETIC).count(5, 7).count(6, 3).askThrows("hn", Driver.MISSING).count(5, 7);
    }

    private static void tellsTheDepth() {
        Driver d = new Driver().askNumber("1", 1).count(7, 1).askNumber("+1+1+11", 4).count(7, 4).askNumber("?1+120", 3);
        d.count(7, 3).badAsk("x", 0).count(7, 3).define("Aab=+a*bb", 2).askNumber("..A34", 19).count(7, 5);
    }

    private static void answersNothingElse() {
        int[] others = {-1, 8, 9, 100, Integer.MIN_VALUE, Integer.MAX_VALUE};
        for (int what : others) {
            new Driver().count(what, -1).askNumber("1", 1).count(what, -1);
        }
    }
}
