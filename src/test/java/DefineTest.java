/** Promise 3: define, and what a DEFINITION is. */
public final class DefineTest {
    public static void main(String[] args) {
        answersHowManyParameters();
        takesThePlaceOfAnOlderOne();
        emptiesTheText();
        keepsWhatItCannotReplace();
        bindsParametersInTheirOrder();
        leavesTheResult();
        refusesWrongTexts();
        Driver.end();
    }

    private static void answersHowManyParameters() {
        new Driver().define("A=1", 0).define("Ba=a", 1).define("Cfe=f", 2).define("Dabc=1", 3).define("Efedc=c", 4)
                .define("F=n", 0).count(2, 6);
    }

    private static void takesThePlaceOfAnOlderOne() {
        new Driver().define("A=1", 0).askNumber("A", 1).define("Aa=+a1", 1).count(2, 1).askNumber(".A6", 7)
                .ask("A", Driver.FUNCTION);
    }

    private static void emptiesTheText() {
        new Driver().typeText("A=1").count(1, 3).define("", 0).count(1, 0).badDefine("", 0);
        new Driver().typeText("A=x").badDefine("", 2).count(1, 0).define("A=4", 0).askNumber("A", 4);
    }

    private static void keepsWhatItCannotReplace() {
        new Driver().define("A=3", 0).badDefine("A=4x", 3).count(2, 1).askNumber("A", 3);
        new Driver().badDefine("A=4x", 3).count(2, 0).askThrows("A", Driver.MISSING);
    }

    private static void bindsParametersInTheirOrder() {
        new Driver().define("Adbca=+*d9+*b7+*c3a", 4).askNumber("....A1234", 9 + 14 + 9 + 4);
        new Driver().define("Afe=-fe", 2).askNumber("..A92", 7);
    }

    private static void leavesTheResult() {
        new Driver().askNumber("8", 8).define("A=1", 0).number(8).badDefine("A", 1).number(8);
        new Driver().ask(":12", Driver.PAIR).define("A=1", 0).head(1).tail(Driver.NUMBER).number(2);
    }

    private static void refusesWrongTexts() {
        new Driver().badDefine("", 0).badDefine("A", 1).badDefine("Aa", 2).badDefine("A=", 2).badDefine("Aabcd", 5)
                .badDefine("1", 0).badDefine("a=1", 0).badDefine("G=1", 0).badDefine("@=1", 0).badDefine("=1", 0);
        new Driver().badDefine("Ag=1", 1).badDefine("A`=1", 1).badDefine("AB=1", 1).badDefine("A1", 1).badDefine("An=n", 1)
                .badDefine("Aaa=a", 2).badDefine("Aaba=1", 3).badDefine("Aabcdd=1", 5).badDefine("Aabcde=1", 5);
        new Driver().badDefine("A=a", 2).badDefine("Aa=b", 3).badDefine("Aab=+a+cb", 7).badDefine("Aa=aa", 4)
                .badDefine("A=1=", 3).badDefine("A=+1", 4).badDefine("A=?11", 5).badDefine("A==1", 4);
        new Driver().define("A==11", 0).askNumber("A", 1).badDefine("Aabc=d", 5);
        new Driver().define("Aa=a", 1).badAsk("a", 0).badDefine("Bb=a", 3).badDefine("B=a", 2);
    }
}
