/** What it is: what is needed, each thing at most once, for at most 512 calls. */
public final class WhatItIsTest {
    public static void main(String[] args) throws ReflectiveOperationException {
        Sentences.run(WhatItIsTest.class);
    }

    @Says("A machine that works out what is needed and nothing else,")
    static void worksOutNothingElse() {
        Driver d = new Driver().define("Aab=a", 2).define("B=B", 0);
        d.askNumber("..A1/10", 1).askNumber("..A1B", 1).askNumber("?1*23B", 6).askNumber("h:4B", 4).count(4, 2);
        d.ask(":B/10", Driver.PAIR).count(3, 0).count(5, 3);
    }

    @Says("each thing at most once: functions by name, numbers,")
    static void worksOutEachThingOnce() {
        Driver d = new Driver().define("A=*67", 0).define("Ba=+a+a+aa", 1);
        d.askNumber(".BA", 168).count(3, 2).count(5, 1).count(6, 3);
    }

    @Says("pairs that may go on for ever,")
    static void goesOnForEver() {
        Driver d = new Driver().define("Aa=:a.A+a1", 1).define("Bab=?=a0hb..B-a1tb", 2);
        d.askNumber("..B5.A3", 8).ask(".A0", Driver.PAIR);
        for (int i = 0; i < 120; i++) {
            d.head(i).tail(Driver.PAIR);
        }
        d.head(120).count(3, 121);
    }

    @Says("closures that are shared and remembered,")
    static void sharesAndRemembers() {
        Driver d = new Driver().define("A=3", 0).define("Ca=:a:an", 1).ask(".CA", Driver.PAIR).count(3, 1);
        d.head(3).count(3, 2).tail(Driver.PAIR).head(3).count(3, 2).count(5, 2).count(6, 1);
    }

    @Says("and results that are gone through bit by bit.")
    static void goesThroughBitByBit() {
        Driver d = new Driver().define("Aa=?an:1.A1", 1).ask(":/63:*45.A1", Driver.PAIR).count(5, 0).head(2).count(5, 1);
        d.tail(Driver.PAIR).count(5, 2).head(20).count(5, 3).tail(Driver.NIL).count(5, 5).count(3, 1);
    }

    /** Each kind of call is the last of all once. */
    @Says("An object is used for at most 512 calls after it has been made; what later calls answer is free.")
    static void answersItsLastCall() {
        withCallsLeft(1).type(Driver.pack("+1"), 2);
        withCallsLeft(1).typeThrows(Driver.pack(" "), Driver.BAD);
        withCallsLeft(2).define("Aab=*ab", 2);
        withCallsLeft(2).askThrows("A+", Driver.BAD);
        withCallsLeft(2).ask(":78", Driver.PAIR);
        withCallsLeft(3).ask(":78", Driver.PAIR).head(7);
        withCallsLeft(3).ask(":78", Driver.PAIR).tail(Driver.NUMBER);
        withCallsLeft(3).askNumber("*66", 36);
        withCallsLeft(3).define("F=1", 0).remove(5);
        withCallsLeft(1).count(0, -1);
    }

    private static Driver withCallsLeft(int left) {
        Driver d = new Driver();
        while (d.callsLeft() > left) {
            d.type(0L, 0);
        }
        return d;
    }

    /** Hardly any run can make more CALLS than this one. */
    @Says("at most 512 calls")
    static void answersHoweverMuchItHasDone() {
        Driver d = new Driver().define("Ba=?a+.B-a1.B-a11", 1).define("C=+.B7+.B6+.B3.B1", 0);
        int asked = 0;
        while (d.callsLeft() > 6) {
            d.askThrows("C", Driver.STATE);
            asked++;
        }
        d.count(3, 400).count(4, 400 * asked).askNumber(".B1", 2).count(3, 3);
    }
}
