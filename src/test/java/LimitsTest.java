/** Terms: working out stands at most 60 deep, and one ASKING with all that follows has at most 400 CALLS. */
public final class LimitsTest {
    /** Exactly 400 CALLS with B: 255, 127, 15 and 3. */
    private static final String FOUR_HUNDRED = "+.B7+.B6+.B3.B1";

    public static void main(String[] args) {
        countsDepthOfEveryPart();
        standsSixtyDeep();
        countsBeforeItIsTooDeep();
        makesFourHundredCalls();
        countsCallsOfWhatFollows();
        goesOnAfterwards();
        Driver.end();
    }

    private static void countsDepthOfEveryPart() {
        Driver d = new Driver().define("A=1", 0).define("Bab=b", 2).define("Ca=a", 1);
        depth(d, 1, "1", "n", ":F/10", "C");
        depth(d, 2, "+11", "?011", "zn", "h:1n", "t:n1", "A", ".B1", "z:/10F");
        depth(d, 3, "+1+11", "++111", "?01+11", "?1+11/1/10", "zt:1n", "h:+11n", "t:n+11", "..BF1", "hh::11n", "ht:1:2n");
        depth(d, 4, "..BF+11", ".CA");
        depth(d, 5, ".C.C1", ".C+AA");
    }

    private static void depth(Driver d, int due, String... texts) {
        for (String text : texts) {
            d.askAnything(text).count(7, due);
        }
    }

    /** D counts down in 5 + 2 n depths, for n from 1 on. */
    private static void standsSixtyDeep() {
        Driver d = new Driver().define("Da=?a.D-a10", 1);
        d.askNumber(".D1", 0).count(7, 7).askNumber(".D9", 0).count(7, 23).askNumber(".D*39", 0).count(7, 59);
        d.askNumber("+0.D*39", 0).count(7, 60).askThrows("+0+0.D*39", Driver.STATE).count(7, 60);
        d.askThrows(".D*74", Driver.STATE).count(7, 60).numberThrows(Driver.MISSING);
        d.ask(":+0.D*39+0+0.D*39", Driver.PAIR).head(0).count(7, 60).tailThrows(Driver.STATE).count(7, 60);
    }

    private static void countsBeforeItIsTooDeep() {
        Driver d = new Driver().define("B=B", 0).askThrows("B", Driver.STATE).count(3, 60).count(7, 60);
        d.askThrows("+1B", Driver.STATE).count(3, 59).count(7, 60).define("Ca=.Ca", 1).askThrows(".C1", Driver.STATE);
        d.count(3, 59).count(7, 60).count(5, 0);
        new Driver().define("C=h:Cn", 0).askThrows("C", Driver.STATE).count(3, 30).count(5, 29).count(7, 60);
        new Driver().define("C=h:Cn", 0).askThrows("h:Cn", Driver.STATE).count(3, 30).count(5, 30).count(7, 60);
        forcesBeforeItIsTooDeep();
    }

    /** B asks for its first ARGUMENT inside twenty As, each a CLOSURE that is FORCED two deeper than the last. */
    private static void forcesBeforeItIsTooDeep() {
        Driver d = new Driver().define("Aa=a", 1).define("Bab=?b..B.A.Aa-b1a", 2);
        d.askNumber("..B78", 7).count(5, 9 + 17).count(7, 4 + 6 * 8);
        d = new Driver().define("Aa=a", 1).define("Bab=?b..B.A.Aa-b1a", 2);
        d.askThrows("+0..B1*25", Driver.STATE).count(5, 11 + 19).count(7, 60);
    }

    private static Driver withTree() {
        return new Driver().define("Ba=?a+.B-a1.B-a11", 1).define("A=5", 0).define("C=" + FOUR_HUNDRED, 0);
    }

    private static void makesFourHundredCalls() {
        withTree().askNumber(".B3", 8).count(3, 15).askNumber(FOUR_HUNDRED, 202).count(3, 400).count(4, 415);
        withTree().askThrows("+" + FOUR_HUNDRED + "A", Driver.STATE).count(3, 400).count(4, 400).numberThrows(Driver.MISSING);
        withTree().askThrows("C", Driver.STATE).count(3, 400).askThrows(".B8", Driver.STATE).count(4, 800);
        withTree().askThrows("+" + FOUR_HUNDRED + ".B0", Driver.STATE).count(3, 400);
        withTree().askNumber("+" + FOUR_HUNDRED + "1", 203).ask(":A" + FOUR_HUNDRED, Driver.PAIR).count(3, 0);
    }

    private static void countsCallsOfWhatFollows() {
        Driver d = withTree().ask(":" + FOUR_HUNDRED + "A", Driver.PAIR).head(202).count(3, 400).head(202);
        d.tailThrows(Driver.STATE).count(3, 400).tailThrows(Driver.MISSING);
        d = withTree().ask(":" + FOUR_HUNDRED + "1", Driver.PAIR).head(202).tail(Driver.NUMBER).number(1);
        d = withTree().ask(":A" + FOUR_HUNDRED, Driver.PAIR).head(5).count(3, 1).tailThrows(Driver.STATE).count(3, 400);
        d = withTree().ask(":A:A" + FOUR_HUNDRED, Driver.PAIR).tail(Driver.PAIR).tail(Driver.NUMBER).number(202);
    }

    private static void goesOnAfterwards() {
        Driver d = withTree().askThrows("C", Driver.STATE).askNumber(FOUR_HUNDRED, 202).askNumber("A", 5).count(3, 1);
        d.define("D=D", 0).askThrows("D", Driver.STATE).askNumber("A", 5).count(7, 2).count(3, 1).count(4, 862);
    }
}
