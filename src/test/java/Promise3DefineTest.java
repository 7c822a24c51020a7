/** Promise 3: define. */
public final class Promise3DefineTest {
    public static void main(String[] args) throws ReflectiveOperationException {
        Sentences.run(Promise3DefineTest.class);
    }

    @Says("is read as a DEFINITION,")
    static void definesEveryName() {
        Driver d = new Driver();
        for (int name = 0; name < 6; name++) {
            char letter = (char) ('A' + name);
            d.define(letter + "=" + name, 0).count(2, name + 1).askNumber(String.valueOf(letter), name);
        }
        d.askNumber("+A+B+C+D+EF", 15);
    }

    @Says("is read as a DEFINITION,")
    static void bindsParametersInTheirOrder() {
        new Driver().define("Adbca=+*d9+*b7+*c3a", 4).askNumber("....A1234", 9 + 14 + 9 + 4);
        new Driver().define("Afe=-fe", 2).askNumber("..A92", 7).define("Aef=-fe", 2).askNumber("..A92", -7);
    }

    @Says({"The text,", "is read as a DEFINITION,"})
    static void refusesAnEmptyText() {
        new Driver().badDefine("", 0).count(2, 0);
        new Driver().define("A=1", 0).badDefine("", 0).count(2, 1).askNumber("A", 1);
        new Driver().badDefine("A=1x", 3).badDefine("", 0).askNumber("1", 1).badDefine("", 0).number(1);
        new Driver().type(0L, 0).badDefine("", 0);
    }

    @Says("empty then in any case,")
    static void emptiesTheTextItHasRead() {
        new Driver().typeText("A=").typeText("1").count(1, 3).define("", 0).count(1, 0).badDefine("", 0);
        new Driver().define("A=1", 0).define("B=2", 0).count(1, 0).count(2, 2);
        new Driver().typeText("Aabcd=" + "?".repeat(11) + "a".repeat(23)).count(1, 40).define("", 4).count(1, 0)
                .type(Driver.pack("1"), 1);
    }

    @Says("empty then in any case,")
    static void emptiesTheTextItCannotRead() {
        new Driver().typeText("A=x").badDefine("", 2).count(1, 0).define("A=4", 0).askNumber("A", 4);
        new Driver().typeText("1".repeat(40)).badDefine("", 0).count(1, 0).type(Driver.pack("A=2"), 3).define("", 0);
        new Driver().badDefine("A", 1).badDefine("=1", 0).badDefine("A=", 2).count(1, 0).askNumber("1", 1);
    }

    @Says("in place of an older one of the NAME.")
    static void takesThePlaceOfAnOlderOne() {
        Driver d = new Driver().define("A=1", 0).define("B=2", 0).askNumber("A", 1).define("Aa=+a1", 1).count(2, 2);
        d.askNumber(".A6", 7).ask("A", Driver.FUNCTION).define("A=3", 0).count(2, 2).askNumber("A", 3).askNumber("B", 2);
        d.define("A=3", 0).count(2, 2).askThrows(".A6", Driver.UNSUPPORTED).define("B=A", 0).define("A=4", 0).askNumber("B", 4);
    }

    @Says({"is read as a DEFINITION,", "in place of an older one of the NAME."})
    static void keepsTheOlderOneWhenItCannotBeRead() {
        String[] wrong = {"A", "Aa", "A=", "A=4x", "Aa=b", "Aaa=1", "A=+1", "Aabcde=1", "A4", "A=44"};
        for (String text : wrong) {
            new Driver().define("Aab=-ab", 2).askThrows("A+", Driver.BAD).defineThrows(text, Driver.BAD).count(2, 1)
                    .askNumber("..A83", 5);
            new Driver().defineThrows(text, Driver.BAD).count(2, 0).askThrows("A", Driver.MISSING);
        }
    }

    @Says("Answers how many PARAMETERS it has.")
    static void answersHowManyParameters() {
        new Driver().define("A=1", 0).define("Ba=a", 1).define("Cfe=f", 2).define("Dabc=1", 3).define("Efedc=c", 4)
                .define("F=n", 0).count(2, 6);
        new Driver().define("Aabcd=1", 4).define("Aabc=1", 3).define("Aab=1", 2).define("Aa=1", 1).define("A=1", 0);
    }

    @Says("is read as a DEFINITION,")
    static void worksNothingOut() {
        new Driver().define("A=/10", 0).define("B=F", 0).define("C=+nn", 0).define("D=D", 0).count(3, 0).count(4, 0)
                .count(5, 0).count(7, 0).numberThrows(Driver.MISSING);
    }

    @Says("is read as a DEFINITION,")
    static void leavesTheResult() {
        new Driver().askNumber("8", 8).define("A=1", 0).number(8).badDefine("A", 1).number(8).badDefine("", 0).number(8);
        Driver d = new Driver().define("A=:1:2A", 0).ask("A", Driver.PAIR).define("A=1", 0).head(1).badDefine("A=x", 2);
        d.tail(Driver.PAIR).head(2).count(3, 1).count(4, 1).count(7, 2);
    }

    /** What a DEFINITION is stands among the terms; here is one text for each way to miss it. */
    @Says("is read as a DEFINITION,")
    static void refusesWhatIsNoDefinition() {
        new Driver().badDefine("A", 1).badDefine("Aa", 2).badDefine("A=", 2).badDefine("Aabcd", 5).badDefine("1", 0);
        new Driver().badDefine("a=1", 0).badDefine("G=1", 0).badDefine("@=1", 0).badDefine("=1", 0).badDefine("n=1", 0);
        new Driver().badDefine("AB=1", 1).badDefine("A1", 1).badDefine("An=n", 1).badDefine("A.=1", 1).badDefine("A==1", 4);
        new Driver().badDefine("A=1=", 3).badDefine("A=+1", 4).badDefine("A=?11", 5).badDefine("Aa=aa", 4);
        new Driver().define("A==11", 0).askNumber("A", 1).define("Aa==aa", 1).askNumber(".A4", 1);
    }
}
