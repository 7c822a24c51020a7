/** Terms: WORKING OUT, with what each kind of EXPRESSION gives or throws. */
public final class TermsWorkingOutTest {
    private static final String RECKONING = "+-*/%<=";
    private static final String[] NO_NUMBERS = {"n", ":11", "A"};

    public static void main(String[] args) throws ReflectiveOperationException {
        Sentences.run(TermsWorkingOutTest.class);
    }

    private static Driver withFunction() {
        return new Driver().define("Aa=a", 1);
    }

    @Says({"WORKING OUT an EXPRESSION, in which each PARAMETER is a CLOSURE, gives a VALUE: a NUMBER (an int), NIL, "
        + "a PAIR of two CLOSURES, or a FUNCTION: a NAME with fewer CLOSURES, its ARGUMENTS, than PARAMETERS.",
        "A digit: the NUMBER. NIL: that."})
    static void givesValues() {
        Driver d = new Driver().define("Aabcd=1", 4);
        d.askNumber("0", 0).askNumber("9", 9).ask("n", Driver.NIL).ask(":nn", Driver.PAIR).ask("A", Driver.FUNCTION);
        d.ask(".A1", Driver.FUNCTION).ask("..A12", Driver.FUNCTION).ask("...A123", Driver.FUNCTION).askNumber("....A1234", 1);
    }

    @Says("A PARAMETER: FORCING its CLOSURE.")
    static void forcesParameters() {
        Driver d = withFunction().askNumber(".A8", 8).count(5, 1).askThrows(".A/10", Driver.ARITHMETIC).count(5, 2);
        d.ask(".An", Driver.NIL).ask(".A:11", Driver.PAIR).ask(".AA", Driver.FUNCTION).askThrows(".AF", Driver.MISSING);
    }

    @Says("A NAME: without DEFINITION: NoSuchElementException;")
    static void refusesNamesWithoutDefinition() {
        for (char name = 'A'; name <= 'F'; name++) {
            new Driver().askThrows(name + "", Driver.MISSING).count(3, 0).count(4, 0).count(7, 1);
            new Driver().askThrows("+1" + name, Driver.MISSING).askThrows("." + name + "1", Driver.MISSING)
                    .askThrows("z" + name, Driver.MISSING).askThrows("?" + name + "11", Driver.MISSING);
        }
        new Driver().define("A=1", 0).remove(0).askThrows("A", Driver.MISSING).define("A=2", 0).askNumber("A", 2);
        new Driver().define("A=B", 0).askThrows("A", Driver.MISSING).count(3, 1);
    }

    @Says({"without PARAMETERS: a CALL of it;", "else the FUNCTION without ARGUMENTS."})
    static void worksNames() {
        Driver d = withFunction().define("B=+12", 0).define("Cab=1", 2).define("Dabcd=1", 4);
        d.askNumber("B", 3).count(3, 1).count(7, 3).askNumber("+BB", 6).count(3, 2).ask("A", Driver.FUNCTION).count(3, 0);
        d.count(7, 1).ask("C", Driver.FUNCTION).ask("D", Driver.FUNCTION).count(3, 0).count(4, 3);
    }

    @Says("PAIR: of the CLOSURES of both parts.")
    static void makesPairs() {
        Driver d = withFunction().ask(":/10F", Driver.PAIR).count(5, 0).count(7, 1).headThrows(Driver.ARITHMETIC);
        d.ask(":/10F", Driver.PAIR).tailThrows(Driver.MISSING).define("Ba=:aa", 1).ask(".B+12", Driver.PAIR).head(3);
        d.tail(Driver.NUMBER).number(3).count(5, 3).count(6, 1);
    }

    @Says("APPLICATION: the first part is worked out; not a FUNCTION: UnsupportedOperationException;")
    static void appliesFunctionsAlone() {
        Driver d = withFunction().define("D=4", 0);
        d.askThrows(".11", Driver.UNSUPPORTED).askThrows(".n1", Driver.UNSUPPORTED).askThrows(".:121", Driver.UNSUPPORTED);
        d.askThrows("..A91", Driver.UNSUPPORTED).count(3, 1).askThrows(".D1", Driver.UNSUPPORTED).count(3, 1);
        d.askThrows(".F1", Driver.MISSING).askThrows("./101", Driver.ARITHMETIC).askThrows(".+1n1", Driver.UNSUPPORTED);
        d.askThrows(".0/10", Driver.UNSUPPORTED).askThrows(".nF", Driver.UNSUPPORTED);
    }

    @Says({"its ARGUMENTS and, behind them, the CLOSURE of the second part: fewer than PARAMETERS: that FUNCTION; else a CALL.",
        "A CALL: the DEFINITION's EXPRESSION is worked out, the PARAMETERS being the ARGUMENTS."})
    static void applies() {
        Driver d = new Driver().define("Aabc=-a-bc", 3).define("B=.A9", 0).define("Ca=.a1", 1);
        d.ask(".A1", Driver.FUNCTION).count(3, 0).ask("..A12", Driver.FUNCTION).count(3, 0).askNumber("...A952", 6).count(3, 1);
        d.askNumber("..B52", 6).count(3, 2).ask("B", Driver.FUNCTION).askNumber(".C..A95", 5).ask(".CA", Driver.FUNCTION);
        d.askThrows("....A9521", Driver.UNSUPPORTED).count(3, 1).define("Ea=A", 1).askNumber("....E0952", 6).count(3, 2);
        d.define("Eab=b", 2).askNumber("..EF1", 1).askThrows("..E1F", Driver.MISSING).askNumber("..E/105", 5);
    }

    /** Its head FORCES a FUNCTION of A with two ARGUMENTS, to which the tail then gives another third one. */
    private static Driver kept() {
        Driver d = new Driver().define("Aabc=a", 3).define("Ca=:.a3.a4", 1);
        return d.ask(".C..A12", Driver.PAIR).count(3, 1).head(1).count(3, 2);
    }

    @Says("(DEFINITIONS may have been changed: without one: NoSuchElementException;")
    static void refusesFunctionsWithoutDefinition() {
        kept().remove(0).tailThrows(Driver.MISSING).count(3, 2);
        kept().remove(0).removeThrows(0, Driver.MISSING).tailThrows(Driver.MISSING).hasNoResult();
        kept().remove(0).define("Aabc=c", 3).tail(Driver.NUMBER).number(4);
        kept().remove(2).tail(Driver.NUMBER).number(1);
    }

    @Says("ARGUMENTS beyond its PARAMETERS don't matter.)")
    static void appliesFunctionsOfFewerParameters() {
        kept().define("Aab=-ab", 2).tail(Driver.NUMBER).number(-1).count(3, 3);
        kept().define("Aa=+a1", 1).tail(Driver.NUMBER).number(2).count(3, 3);
        kept().define("A=8", 0).tail(Driver.NUMBER).number(8).count(3, 3);
        kept().define("Aa=0", 1).define("A=:88", 0).tail(Driver.PAIR).head(8);
    }

    @Says("(DEFINITIONS may have been changed:")
    static void appliesFunctionsOfMoreOrOtherParameters() {
        kept().define("Aabcd=a", 4).tail(Driver.FUNCTION).count(3, 2);
        kept().define("Acba=-+b*a9c", 3).tail(Driver.NUMBER).number(2 + 36 - 1);
        kept().badDefine("A=", 2).tail(Driver.NUMBER).number(1);
        Driver d = new Driver().define("Aab=+ab", 2).define("Ca=:+a1.A1", 1).ask(".C4", Driver.PAIR).tail(Driver.FUNCTION);
        d.remove(0).numberThrows(Driver.UNSUPPORTED).headThrows(Driver.UNSUPPORTED);
    }

    @Says("< and = give 1 or 0.")
    static void compares() {
        Driver d = new Driver().define("Aa=*aa", 1).define("B=.A.A4", 0).define("C=*B*B*B*8*44", 0);
        d.askNumber("<12", 1).askNumber("<22", 0).askNumber("<32", 0).askNumber("=22", 1).askNumber("=12", 0).askNumber("=21", 0);
        d.askNumber("<-091", 1).askNumber("=-09-09", 1).askNumber("<C-C1", 1).askNumber("<-C1C", 0).askNumber("=C-0C", 1);
    }

    @Says("wrapping;")
    static void wraps() {
        Driver d = new Driver().define("Aa=*aa", 1).define("B=.A.A4", 0).define("C=*B*B*B*8*44", 0);
        d.askNumber("+89", 17).askNumber("-89", -1).askNumber("*89", 72);
        d.askNumber("B", 256).askNumber("*B*BB", 1 << 24).askNumber("*B*B*BB", 0).askNumber("*B*B*B8", 1 << 27);
        d.askNumber("C", Integer.MIN_VALUE).askNumber("-C1", Integer.MAX_VALUE).askNumber("+-C11", Integer.MIN_VALUE);
        d.askNumber("+-C12", Integer.MIN_VALUE + 1).askNumber("-0C", Integer.MIN_VALUE).askNumber("*CC", 0).askNumber("+CC", 0);
        d.askNumber("/C-01", Integer.MIN_VALUE).askNumber("%C-01", 0).askNumber("*-C12", -2);
        d.askNumber("*C-01", Integer.MIN_VALUE);
    }

    @Says("/ and % towards zero,")
    static void dividesTowardsZero() {
        Driver d = new Driver().askNumber("/92", 4).askNumber("%92", 1).askNumber("/-072", -3).askNumber("/7-02", -3);
        d.askNumber("/-07-02", 3).askNumber("%-072", -1).askNumber("%7-02", 1).askNumber("%-07-02", -1).askNumber("/05", 0);
        d.askNumber("%05", 0).askNumber("/-016", 0).askNumber("%-016", -1).askNumber("/-061", -6).askNumber("%-063", 0);
    }

    @Says("by 0: ArithmeticException;")
    static void refusesToDivideByZero() {
        Driver d = new Driver().askThrows("/50", Driver.ARITHMETIC).askThrows("%50", Driver.ARITHMETIC);
        d.askThrows("/00", Driver.ARITHMETIC).askThrows("%00", Driver.ARITHMETIC).askThrows("%5-33", Driver.ARITHMETIC);
        d.askThrows("/-050", Driver.ARITHMETIC).askThrows("/n0", Driver.UNSUPPORTED).askThrows("%n0", Driver.UNSUPPORTED);
    }

    @Says("+ - * / % < =: the first part and then the second, which must be NUMBERS (else UnsupportedOperationException,")
    static void reckonsWithNumbersAlone() {
        for (char sign : RECKONING.toCharArray()) {
            for (String no : NO_NUMBERS) {
                Driver d = withFunction().askThrows(sign + no + "1", Driver.UNSUPPORTED);
                d.askThrows(sign + "1" + no, Driver.UNSUPPORTED).askThrows(sign + no + no, Driver.UNSUPPORTED).hasNoResult();
            }
        }
    }

    @Says({"the first part and then the second,", "as soon as that shows);"})
    static void looksAtTheFirstPartFirst() {
        for (char sign : RECKONING.toCharArray()) {
            for (String no : NO_NUMBERS) {
                Driver d = withFunction().askThrows(sign + no + "/10", Driver.UNSUPPORTED);
                d.askThrows(sign + no + "F", Driver.UNSUPPORTED).askThrows(sign + "/10" + no, Driver.ARITHMETIC);
                d.askThrows(sign + "F" + no, Driver.MISSING).define("E=1", 0).askThrows(sign + no + "E", Driver.UNSUPPORTED);
                d.count(3, 0).askThrows(sign + "E" + no, Driver.UNSUPPORTED).count(3, 1);
            }
            withFunction().askThrows(sign + "F/10", Driver.MISSING).askThrows(sign + "/10F", Driver.ARITHMETIC);
        }
    }

    @Says("h and t: the part must be a PAIR (NIL: NoSuchElementException; else UnsupportedOperationException),")
    static void takesPartsOfPairsAlone() {
        for (char sign : "ht".toCharArray()) {
            Driver d = withFunction().askThrows(sign + "n", Driver.MISSING).askThrows(sign + "0", Driver.UNSUPPORTED);
            d.askThrows(sign + "1", Driver.UNSUPPORTED).askThrows(sign + "A", Driver.UNSUPPORTED).count(5, 0);
            d.askThrows(sign + "F", Driver.MISSING).askThrows(sign + "/10", Driver.ARITHMETIC);
        }
    }

    @Says("its CLOSURE is FORCED.")
    static void forcesThePartItTakes() {
        Driver d = withFunction().askNumber("h:12", 1).count(5, 1).askNumber("t:12", 2).count(5, 2).ask("h:n2", Driver.NIL);
        d.ask("t:1:2n", Driver.PAIR).head(2).ask("h:A1", Driver.FUNCTION).askNumber("h:1/10", 1).askNumber("t:/101", 1);
        d.askThrows("h:/101", Driver.ARITHMETIC).askThrows("t:1/10", Driver.ARITHMETIC).askThrows("h:F1", Driver.MISSING);
    }

    @Says("z: NIL gives 1, a PAIR 0, else UnsupportedOperationException.")
    static void tellsNil() {
        Driver d = withFunction().askNumber("zn", 1).askNumber("z:nn", 0).askNumber("z:/10F", 0).askNumber("zt:1n", 1);
        d.askThrows("z0", Driver.UNSUPPORTED).askThrows("z1", Driver.UNSUPPORTED).askThrows("zA", Driver.UNSUPPORTED);
        d.askThrows("zF", Driver.MISSING).askThrows("zzn", Driver.UNSUPPORTED);
    }

    @Says("CHOICE: the first part, a NUMBER: not 0: the second is worked out, else the third.")
    static void chooses() {
        Driver d = withFunction().askNumber("?123", 2).askNumber("?023", 3).askNumber("?-0123", 2).askNumber("?923", 2);
        d.askNumber("?12/10", 2).askNumber("?0F3", 3).ask("?1n3", Driver.NIL).ask("?02A", Driver.FUNCTION);
        for (String no : NO_NUMBERS) {
            d.askThrows("?" + no + "11", Driver.UNSUPPORTED).askThrows("?" + no + "F/10", Driver.UNSUPPORTED);
        }
        d.askThrows("?F11", Driver.MISSING).askThrows("?1/102", Driver.ARITHMETIC).askThrows("?02/10", Driver.ARITHMETIC);
    }
}
