import java.util.Random;

/** Terms: TEXT, EXPRESSION, and THE PLACE of a text that can't be read. */
public final class ReadingTest {
    private static final String LIKELY = "0123456789abcdefABCDEFn.+-*/%<=:htz?";

    public static void main(String[] args) {
        readsEveryKind();
        standsAtMostTwelveDeep();
        fitsIntoForty();
        refusesOtherCharacters();
        agreesWithTryingOut();
        Driver.end();
    }

    private static void readsEveryKind() {
        Driver d = new Driver().define("Aa=a", 1);
        d.askNumber("7", 7).ask("n", Driver.NIL).ask("A", Driver.FUNCTION).askNumber(".A2", 2).askNumber("+72", 9);
        d.askNumber("-72", 5).askNumber("*72", 14).askNumber("/72", 3).askNumber("%72", 1).askNumber("<72", 0);
        d.askNumber("=72", 0).ask(":72", Driver.PAIR).askNumber("h:72", 7).askNumber("t:72", 2).askNumber("zn", 1);
        d.askNumber("?072", 2).askNumber("?172", 7);
    }

    private static void standsAtMostTwelveDeep() {
        String eleven = "+".repeat(11);
        new Driver().askNumber(eleven + "1".repeat(12), 12).badAsk(eleven + "+111", 11).badAsk(eleven + "z", 11);
        new Driver().badAsk(eleven + "1".repeat(13), 23).badAsk(eleven + "1", 12).badAsk(eleven, 11);
        new Driver().badAsk(eleven + "1+", 12).badAsk(eleven + "11+1", 15).badAsk(eleven + "11++", 14);
        new Driver().badAsk("z".repeat(12) + "n", 11).badAsk("?".repeat(12), 11).badAsk(".".repeat(13), 11);
        new Driver().define("Aa=" + eleven + "a".repeat(12), 1).badDefine("Aa=" + eleven + "+", 14);
        new Driver().define("A=" + ":1".repeat(11) + "n", 0).badDefine("A=" + ":1".repeat(11) + "hn", 24);
    }

    /** A right text has at most 40 characters too: what would need more is wrong where it first shows. */
    private static void fitsIntoForty() {
        String deep = "?".repeat(11);
        String three = deep + "111?111";
        String four = three + "?111";
        new Driver().askNumber(three + "1".repeat(19), 1).askNumber(four + "1".repeat(18), 1);
        new Driver().badAsk(four + "1".repeat(17), 39).badAsk(four + "1".repeat(17) + "?", 22 + 17);
        for (char sign : "h+?".toCharArray()) {
            new Driver().badAsk(four + sign, 22).badAsk(four + "11" + sign + "1".repeat(15), 24);
        }
        new Driver().badAsk(three + "h1+11h", 23).badAsk(three + "+11+", 21);
        String header = "Aabcd=";
        new Driver().define(header + deep + "a".repeat(23), 4).badDefine(header + deep + "aaah", 20);
        new Driver().badDefine(header + deep + "aaa1", 21).define("A=" + three + "h1" + "1".repeat(18), 0);
        new Driver().badDefine("A=" + three + "?", 20).badDefine("A=" + three + "+", 20);
    }

    private static void refusesOtherCharacters() {
        for (char c = 33; c <= 126; c++) {
            boolean known = LIKELY.indexOf(c) >= 0;
            boolean parameter = c >= 'a' && c <= 'f';
            if (!known || parameter) {
                new Driver().badAsk(String.valueOf(c), 0).badAsk("+1" + c, 2);
            }
            if (!known) {
                new Driver().badDefine(String.valueOf(c), 0).badDefine("A" + c, 1).badDefine("A=" + c, 2);
            }
        }
    }

    private static void agreesWithTryingOut() {
        Random random = new Random(20261115);
        for (int i = 0; i < 6000; i++) {
            boolean definition = random.nextBoolean();
            String text = (definition ? someHeader(random) : "") + someCharacters(random);
            text = text.substring(0, Math.min(40, text.length()));
            compare(text, definition);
        }
    }

    private static void compare(String text, boolean definition) {
        NeedMachine machine = new NeedMachine();
        for (int i = 0; i < text.length(); i += 8) {
            machine.type(Driver.pack(text.substring(i, Math.min(text.length(), i + 8))));
        }
        Object got = Driver.outcome(definition ? machine::define : machine::ask);
        String call = (definition ? "define '" : "ask '") + text + "'";
        boolean right = PlainReader.isRight(text, definition);
        Driver.same(call + " is read", !Driver.BAD.equals(got), right);
        Driver.same(call + " place", machine.count(0), right ? -1 : PlainReader.place(text, definition));
    }

    private static String someHeader(Random random) {
        String[] headers = {"A=", "Ba=", "Cab=", "Dabc=", "Eabcd=", "Ffedc=", "Aa", "B", "", "Aabcde=", "Aba=", "Caa="};
        return headers[random.nextInt(headers.length)];
    }

    /** Mostly marks that need parts, so that texts come near the limits on depth and length. */
    private static String someCharacters(Random random) {
        StringBuilder text = new StringBuilder();
        int length = random.nextInt(41);
        int leaves = 1 + random.nextInt(7);
        for (int i = 0; i < length; i++) {
            if (random.nextInt(10) < leaves) {
                text.append(random.nextInt(12) == 0 ? LIKELY.charAt(random.nextInt(LIKELY.length())) : '1');
            } else {
                text.append(".+?:=hz?".charAt(random.nextInt(8)));
            }
        }
        return text.toString();
    }
}
