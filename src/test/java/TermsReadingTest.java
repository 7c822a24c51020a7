import java.util.Random;

/** Terms: TEXT, EXPRESSION, DEFINITION, and THE PLACE of a text that can't be read. */
public final class TermsReadingTest {
    private static final String LIKELY = "0123456789abcdefABCDEFn.+-*/%<=:htz?";
    private static final String ELEVEN = "+".repeat(11);
    private static final String CHOICES = "?".repeat(11);

    public static void main(String[] args) throws ReflectiveOperationException {
        Sentences.run(TermsReadingTest.class);
    }

    @Says("TEXT has at most 40 characters.")
    static void readsTextsOfForty() {
        String asked = CHOICES + "111" + "zn".repeat(6) + "1".repeat(14);
        new Driver().typeText(asked).count(1, 40).typeThrows(Driver.pack("1"), Driver.STATE).askNumber("", 1).askNumber(asked, 1);
        String defined = "Aabcd=" + CHOICES + "a".repeat(22) + "b";
        new Driver().typeText(defined).count(1, 40).typeThrows(Driver.pack("1"), Driver.STATE).define("", 4).count(2, 1);
    }

    /** A right text is a TEXT: where 40 would no longer do for all that is still due, no right text could begin. */
    @Says({"TEXT has at most 40 characters.", "first character with which, after those before, no right text could begin,"})
    static void findsThePlaceWhereFortyWouldNotDo() {
        String three = CHOICES + "111?111";
        String four = three + "?111";
        new Driver().askNumber(three + "1".repeat(19), 1).askNumber(four + "1".repeat(18), 1);
        new Driver().badAsk(four + "1".repeat(17), 39).badAsk(four + "1".repeat(17) + "?", 22 + 17);
        for (char sign : "h+?".toCharArray()) {
            new Driver().badAsk(four + sign, 22).badAsk(four + "11" + sign + "1".repeat(15), 24);
        }
        new Driver().badAsk(three + "h1+11h", 23).badAsk(three + "+11+", 21);
        new Driver().define("Aabcd=" + CHOICES + "a".repeat(23), 4).badDefine("Aabcd=" + CHOICES + "aaah", 20);
        new Driver().badDefine("Aabcd=" + CHOICES + "aaa1", 21).define("A=" + three + "h1" + "1".repeat(18), 0);
        new Driver().badDefine("A=" + three + "?", 20).badDefine("A=" + three + "+", 20);
    }

    @Says("An EXPRESSION E (in front of its parts stands what is done with them): a digit 0 .. 9; a PARAMETER a .. f; "
        + "a NAME A .. F; n, NIL;")
    static void readsEveryLeaf() {
        for (int digit = 0; digit <= 9; digit++) {
            new Driver().askNumber(String.valueOf(digit), digit);
        }
        for (char parameter = 'a'; parameter <= 'f'; parameter++) {
            new Driver().define("A" + parameter + "=+1" + parameter, 1).askNumber(".A4", 5);
        }
        for (char name = 'A'; name <= 'F'; name++) {
            new Driver().define(name + "=9", 0).askNumber(String.valueOf(name), 9);
        }
        new Driver().ask("n", Driver.NIL);
    }

    @Says(". E E, an APPLICATION; + - * / % < or = and E E; : E E, a PAIR; h E, the head; t E, the tail; "
        + "z E, whether it's NIL; ? E E E, a CHOICE.")
    static void readsEverySign() {
        Driver d = new Driver().define("Aa=-a1", 1).askNumber(".A2", 1).askNumber("+72", 9).askNumber("-72", 5);
        d.askNumber("*72", 14).askNumber("/72", 3).askNumber("%72", 1).askNumber("<72", 0).askNumber("=72", 0);
        d.ask(":72", Driver.PAIR).askNumber("h:72", 7).askNumber("t:72", 2).askNumber("zn", 1).askNumber("?072", 2);
        for (char sign : ".+-*/%<=:".toCharArray()) {
            d.badAsk(sign + "", 1).badAsk(sign + "1", 2).badAsk(sign + "111", 3);
        }
        for (char sign : "htz".toCharArray()) {
            d.badAsk(sign + "", 1).badAsk(sign + "11", 2);
        }
        d.badAsk("?", 1).badAsk("?1", 2).badAsk("?11", 3).badAsk("?1111", 4);
    }

    @Says("An EXPRESSION E (in front of its parts stands what is done with them)")
    static void refusesEveryOtherCharacter() {
        for (char c = 33; c <= 126; c++) {
            boolean known = LIKELY.indexOf(c) >= 0;
            boolean parameter = c >= 'a' && c <= 'f';
            if (!known || parameter) {
                new Driver().badAsk(String.valueOf(c), 0).badAsk("+1" + c, 2).badDefine("A=" + c, 2).badDefine("B=?1" + c, 4);
            }
        }
        new Driver().badAsk("1+2", 1).badAsk("(1)", 0).badAsk("G", 0).badAsk("g", 0).badAsk("@", 0).badAsk("N", 0);
    }

    @Says("EXPRESSIONS stand at most 12 deep in one another (the outermost is at depth 1).")
    static void standsTwelveDeep() {
        new Driver().askNumber(ELEVEN + "1".repeat(12), 12).askNumber("+1".repeat(11) + "1", 12);
        new Driver().askThrows("htzhtzhtzhtn", Driver.MISSING).define("Aa=" + ELEVEN + "a".repeat(12), 1);
        new Driver().define("A=" + ":1".repeat(11) + "n", 0).askNumber("?1".repeat(11) + "3" + "1".repeat(11), 3);
        new Driver().askNumber("?01".repeat(11) + "4", 4);
    }

    /** With a sign at depth 12 no right text could begin: its part would stand at 13. */
    @Says("EXPRESSIONS stand at most 12 deep in one another (the outermost is at depth 1).")
    static void standsNoDeeperThanTwelve() {
        for (char sign : ".+-*/%<=:htz?".toCharArray()) {
            new Driver().badAsk(ELEVEN + sign, 11).badAsk(ELEVEN + sign + "111", 11).badAsk("+1".repeat(11) + sign + "11", 22);
            new Driver().badAsk("?01".repeat(11) + sign + "11", 33).badDefine("A=" + "h".repeat(11) + sign, 13);
        }
        new Driver().badAsk(ELEVEN + "1+", 12).badAsk(ELEVEN + "11+1", 15).badAsk(ELEVEN + "11++", 14);
        new Driver().badAsk("z".repeat(12) + "n", 11).badAsk("?".repeat(12), 11);
        new Driver().badAsk(".".repeat(40), 11).badDefine("Aa=" + ELEVEN + "+", 14);
    }

    @Says("A DEFINITION: a NAME,")
    static void beginsWithAName() {
        for (char c = 33; c <= 126; c++) {
            if (c < 'A' || c > 'F') {
                new Driver().badDefine(c + "=1", 0).badDefine(String.valueOf(c), 0);
            } else {
                new Driver().define(c + "=1", 0).count(0, -1).badDefine(String.valueOf(c), 1);
            }
        }
    }

    @Says("up to four PARAMETERS,")
    static void hasUpToFourParameters() {
        new Driver().define("A=1", 0).define("Aa=1", 1).define("Aab=1", 2).define("Aabc=1", 3).define("Aabcd=1", 4);
        new Driver().badDefine("Aabcde=1", 5).badDefine("Aabcde", 5).badDefine("Aabcdef=1", 5).badDefine("Afedcba=1", 5);
        new Driver().badDefine("A", 1).badDefine("Aa", 2).badDefine("Aab", 3).badDefine("Aabc", 4).badDefine("Aabcd", 5);
        new Driver().define("Afedc=-f-e-dc", 4).askNumber("....A9421", 9 - (4 - (2 - 1)));
        for (char c = 33; c <= 126; c++) {
            if (c != '=' && (c < 'a' || c > 'f')) {
                new Driver().badDefine("A" + c + "=1", 1).badDefine("Aa" + c + "=1", 2).badDefine("Aabcd" + c, 5);
            }
        }
    }

    @Says("all different,")
    static void hasDifferentParameters() {
        new Driver().badDefine("Aaa=a", 2).badDefine("Aaba=1", 3).badDefine("Aabb=1", 3).badDefine("Aabca=1", 4);
        new Driver().badDefine("Aabcb=1", 4).badDefine("Aabcc=1", 4).badDefine("Aabcdd=1", 5).badDefine("Aff=1", 2);
        for (char c = 'a'; c <= 'f'; c++) {
            new Driver().define("A" + c + "=1", 1).badDefine("A" + c + c + "=1", 2).count(2, 1);
        }
    }

    @Says("= and an EXPRESSION")
    static void hasAnExpressionBehindTheSign() {
        new Driver().badDefine("A", 1).badDefine("A1", 1).badDefine("AA", 1).badDefine("A=", 2).badDefine("Aab=", 4);
        new Driver().badDefine("A=1=", 3).badDefine("A=11", 3).badDefine("A=+1", 4).badDefine("A=?11", 5).badDefine("A=.", 3);
        new Driver().badDefine("A==1", 4).define("A==11", 0).askNumber("A", 1).badDefine("Aa:1", 2).badDefine("Aab+ab", 3);
    }

    @Says("in which just these PARAMETERS stand.")
    static void hasJustItsParameters() {
        for (char c = 'a'; c <= 'f'; c++) {
            new Driver().badDefine("A=" + c, 2).badDefine("A=+1" + c, 4);
            for (char other = 'a'; other <= 'f'; other++) {
                if (other != c) {
                    new Driver().badDefine("A" + c + "=" + other, 3).badDefine("A" + c + "=?" + c + other + "1", 5);
                }
            }
        }
        new Driver().badDefine("Aabcd=+a+b+c+de", 14).badDefine("Aabc=d", 5).define("Aabcd=1", 4).define("Aab=b", 2);
        new Driver().define("Aa=a", 1).badDefine("Bb=a", 3).badDefine("B=a", 2).badAsk("a", 0);
    }

    @Says({"\"Bad\" is IllegalArgumentException: a number out of range; a text that can't be read:",
        "THE PLACE is that of its first character with which, after those before, no right text could begin,"})
    static void findsTheFirstWrongCharacter() {
        new Driver().badAsk("x", 0).badAsk("xx", 0).badAsk("+x1", 1).badAsk("+1xx", 2).badAsk("+1+1+x", 5).badAsk("11", 1);
        new Driver().badAsk("n1", 1).badAsk("h1x", 2).badAsk("?1a2", 2).badAsk("..A3.4!", 6).badDefine("Aaa=x", 2);
        new Driver().badDefine("Gaa", 0).badDefine("Aab=+a+cb", 7).badDefine("A=1xx", 3).badDefine("Aa=+ax", 5);
        new Driver().removeThrows(-1, Driver.BAD).removeThrows(6, Driver.BAD).typeThrows(31L, Driver.BAD).count(0, -1);
    }

    @Says("or its length.")
    static void findsTheLengthOfWhatIsTooShort() {
        new Driver().badAsk("", 0).badAsk("+", 1).badAsk("+1", 2).badAsk("?1", 2).badAsk("?11", 3).badAsk("h", 1);
        new Driver().badAsk(ELEVEN, 11).badAsk(ELEVEN + "1", 12).badAsk(ELEVEN + "1".repeat(11), 22).badAsk("..A3.4", 6);
        new Driver().badDefine("", 0).badDefine("A", 1).badDefine("Aa", 2).badDefine("Aabcd", 5).badDefine("A=", 2);
        new Driver().badDefine("A=?11", 5).badDefine("Aa=+a", 5).badDefine("Aabcd=" + CHOICES, 17);
    }

    @Says("THE PLACE is that of its first character with which, after those before, no right text could begin, or its length.")
    static void agreesWithTryingOut() {
        Random random = new Random(20261115);
        for (int i = 0; i < 6000; i++) {
            boolean definition = random.nextBoolean();
            String text = (definition ? someHeader(random) : "") + someCharacters(random);
            text = text.substring(0, Math.min(40, text.length()));
            compare(text, definition);
        }
    }

    private static void compare(String text, boolean definition) {
        NeedMachine machine = new NeedMachine();
        for (int i = 0; i < text.length(); i += 8) {
            machine.type(Driver.pack(text.substring(i, Math.min(text.length(), i + 8))));
        }
        Object got = Driver.outcome(definition ? machine::define : machine::ask);
        String call = (definition ? "define '" : "ask '") + text + "'";
        boolean right = PlainReader.isRight(text, definition);
        Driver.same(call + " is read", !Driver.BAD.equals(got), right);
        Driver.same(call + " place", machine.count(0), right ? -1 : PlainReader.place(text, definition));
    }

    private static String someHeader(Random random) {
        String[] headers = {"A=", "Ba=", "Cab=", "Dabc=", "Eabcd=", "Ffedc=", "Aa", "B", "", "Aabcde=", "Aba=", "Caa="};
        return headers[random.nextInt(headers.length)];
    }

    /** Mostly marks that need parts, so that texts come near the limits on depth and length. */
    private static String someCharacters(Random random) {
        StringBuilder text = new StringBuilder();
        int length = random.nextInt(41);
        int leaves = 1 + random.nextInt(7);
        for (int i = 0; i < length; i++) {
            if (random.nextInt(10) < leaves) {
                text.append(random.nextInt(12) == 0 ? LIKELY.charAt(random.nextInt(LIKELY.length())) : '1');
            } else {
                text.append(".+?:=hz?".charAt(random.nextInt(8)));
            }
        }
        return text.toString();
    }
}
