/** Terms: working out stands at most 60 deep, and one ASKING with all that follows has at most 400 CALLS. */
public final class TermsLimitsTest {
    /** Exactly 400 CALLS with B: 255, 127, 15 and 3. */
    private static final String FOUR_HUNDRED = "+.B7+.B6+.B3.B1";
    /** 27 rounds of D: its second ARGUMENT is worked out at depth 58. */
    private static final String AT_FIFTY_EIGHT = "..D*39";

    public static void main(String[] args) throws ReflectiveOperationException {
        Sentences.run(TermsLimitsTest.class);
    }

    private static Driver withNames() {
        return new Driver().define("A=1", 0).define("Bab=b", 2).define("Ca=a", 1).define("Dab=?a..D-a1bb", 2)
                .define("E=A", 0).define("Fa=+a1", 1);
    }

    private static void depth(int due, String... texts) {
        for (String text : texts) {
            withNames().askAnything(text).count(7, due);
        }
    }

    @Says("Working out stands within working out, for parts,")
    static void countsDepthForParts() {
        depth(1, "1", "n", ":A/10", "C");
        depth(2, "+11", "?011", "?111", "zn", "z:/10F", "hn", "tn", ".11", ".B1");
        depth(3, "+1+11", "++111", "?01+11", "?1+11/1/10", "?zn11", "zzn", "hzn", "t+11", ".zn1", "..B11");
    }

    @Says("in FORCING and in CALLS (also where nothing is left to be done then):")
    static void countsDepthForForcingAndCalls() {
        depth(2, "A", "h:1n", "t:n1");
        depth(3, "E", "h:+11n", "t:n+11", "h:An", ".C1", "..BA1", "hh::11n", "ht:1:2n", "+1A");
        depth(4, "..BF+11", ".CA", "h:En", ".C+11", "+1E", ".F1");
        depth(5, ".C.C1", ".C+AA", ".F+11");
    }

    /** Each text is three deep in itself. */
    @Says("at most 60 within one another (the first is at depth 1), else IllegalStateException.")
    static void standsSixtyDeep() {
        String[] three = {"+1+11", "++111", "?01+11", "?1+111", "?+1111", "h:+11n", "t:n+11", "zt:1n", ".C1", "E", "..B01",
            "+1A"};
        for (String text : three) {
            withNames().ask(AT_FIFTY_EIGHT + text, Driver.NUMBER).count(7, 60);
        }
        withNames().ask("+0..D*39+11", Driver.NUMBER).count(7, 60);
    }

    /** Each text is four deep in itself, by another way in which working out stands within working out. */
    @Says({"Working out stands within working out, for parts,",
        "in FORCING and in CALLS (also where nothing is left to be done then):",
        "at most 60 within one another (the first is at depth 1), else IllegalStateException."})
    static void standsNoDeeperThanSixty() {
        String[] four = {"+1+1+11", "+++1111", "*1*1*11", "?+1+1111", "?1+1+111", "?01+1+11", "h+1+11", "t+1+11",
            "z+1+11", ".+1+111", "h:+1+11n", "t:n+1+11", ".C+11", ".CA", ".F1", "h:En", "t:nE", "+1E", "?1E1", "..BEA"};
        for (String text : four) {
            withNames().askThrows(AT_FIFTY_EIGHT + text, Driver.STATE).count(7, 60).hasNoResult().count(7, 60);
        }
    }

    @Says("at most 60 within one another (the first is at depth 1), else IllegalStateException.")
    static void standsSixtyDeepInWhatFollows() {
        Driver d = withNames().ask(":..D*39+1+11..D*39+1+1+11", Driver.PAIR).count(7, 1).head(3).count(7, 60);
        d.tailThrows(Driver.STATE).count(7, 60).hasNoResult();
        withNames().ask(":1..D*39+1+11", Driver.PAIR).tail(Driver.NUMBER).number(3).count(7, 60);
        withNames().ask(":+0..D*39+1+11n", Driver.PAIR).headThrows(Driver.STATE).hasNoResult();
    }

    /** A CALL whose EXPRESSION would stand too deep has been made. */
    @Says({"at most 60 within one another", "in CALLS (also where nothing is left to be done then):"})
    static void callsBeforeItIsTooDeep() {
        Driver d = new Driver().define("B=B", 0).askThrows("B", Driver.STATE).count(3, 60).count(7, 60);
        d.askThrows("+1B", Driver.STATE).count(3, 59).count(7, 60).define("Ca=.Ca", 1).askThrows(".C1", Driver.STATE);
        d.count(3, 59).count(7, 60).count(5, 0);
        new Driver().define("C=h:Cn", 0).askThrows("C", Driver.STATE).count(3, 30).count(5, 29).count(7, 60);
        new Driver().define("C=+1C", 0).askThrows("C", Driver.STATE).count(3, 30).count(7, 60);
    }

    /** B asks for its first ARGUMENT inside twenty As, each a CLOSURE that is FORCED two deeper than the last. */
    @Says({"at most 60 within one another", "in FORCING"})
    static void forcesBeforeItIsTooDeep() {
        new Driver().define("C=h:Cn", 0).askThrows("h:Cn", Driver.STATE).count(3, 30).count(5, 30).count(7, 60);
        Driver d = new Driver().define("Aa=a", 1).define("Bab=?b..B.A.Aa-b1a", 2);
        d.askNumber("..B78", 7).count(5, 9 + 17).count(7, 4 + 6 * 8);
        d = new Driver().define("Aa=a", 1).define("Bab=?b..B.A.Aa-b1a", 2);
        d.askThrows("+0..B1*25", Driver.STATE).count(5, 11 + 19).count(7, 60);
    }

    private static Driver withTree() {
        return new Driver().define("Ba=?a+.B-a1.B-a11", 1).define("A=5", 0).define("C=" + FOUR_HUNDRED, 0);
    }

    @Says("In one ASKING,")
    static void makesFourHundredCalls() {
        withTree().askNumber(".B3", 8).count(3, 15).askNumber(FOUR_HUNDRED, 202).count(3, 400).count(4, 415);
        withTree().askNumber("+" + FOUR_HUNDRED + "1", 203).count(3, 400).ask(":A" + FOUR_HUNDRED, Driver.PAIR).count(3, 0);
    }

    @Says("at most 400 CALLS, else IllegalStateException.")
    static void makesNoMoreThanFourHundredCalls() {
        withTree().askThrows("+" + FOUR_HUNDRED + "A", Driver.STATE).count(3, 400).count(4, 400).hasNoResult();
        withTree().askThrows("+" + FOUR_HUNDRED + ".B0", Driver.STATE).count(3, 400);
        withTree().askThrows("C", Driver.STATE).count(3, 400).askThrows(".B8", Driver.STATE).count(3, 400).count(4, 800);
    }

    @Says("with all that follows, at most 400 CALLS, else IllegalStateException.")
    static void countsTheCallsOfWhatFollows() {
        Driver d = withTree().ask(":" + FOUR_HUNDRED + "A", Driver.PAIR).head(202).count(3, 400).head(202);
        d.tailThrows(Driver.STATE).count(3, 400).hasNoResult();
        withTree().ask(":" + FOUR_HUNDRED + "1", Driver.PAIR).head(202).tail(Driver.NUMBER).number(1).count(3, 400);
        withTree().ask(":A" + FOUR_HUNDRED, Driver.PAIR).head(5).count(3, 1).tailThrows(Driver.STATE).count(3, 400);
        withTree().ask(":A:A" + FOUR_HUNDRED, Driver.PAIR).tail(Driver.PAIR).tail(Driver.NUMBER).number(202);
        withTree().ask("?" + FOUR_HUNDRED + ":A11", Driver.PAIR).headThrows(Driver.STATE).count(3, 400).hasNoResult();
    }

    @Says({"In one ASKING,", "at most 60 within one another"})
    static void goesOnAfterwards() {
        Driver d = withTree().askThrows("C", Driver.STATE).askNumber(FOUR_HUNDRED, 202).askNumber("A", 5).count(3, 1);
        d.define("D=D", 0).askThrows("D", Driver.STATE).askNumber("A", 5).count(7, 2).count(3, 1).count(4, 862);
    }
}
