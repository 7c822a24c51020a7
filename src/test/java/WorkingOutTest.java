/** Terms: WORKING OUT, with what each kind of EXPRESSION gives or throws. */
public final class WorkingOutTest {
    public static void main(String[] args) {
        reckons();
        wraps();
        dividesTowardsZero();
        refusesWhatIsNoNumber();
        worksNames();
        applies();
        appliesChangedDefinitions();
        takesParts();
        tellsNil();
        chooses();
        Driver.end();
    }

    private static void reckons() {
        Driver d = new Driver();
        d.askNumber("+89", 17).askNumber("-89", -1).askNumber("*89", 72).askNumber("/92", 4).askNumber("%92", 1);
        d.askNumber("<12", 1).askNumber("<22", 0).askNumber("<32", 0).askNumber("=22", 1).askNumber("=12", 0);
        d.askNumber("<-091", 1).askNumber("=-09-09", 1).count(5, 0).count(6, 0);
    }

    private static void wraps() {
        Driver d = new Driver().define("Aa=*aa", 1).define("B=.A.A4", 0).define("C=*B*B*B*8*44", 0);
        d.askNumber("B", 256).askNumber("*B*BB", 1 << 24).askNumber("*B*B*BB", 0).askNumber("*B*B*B8", 1 << 27);
        d.askNumber("C", Integer.MIN_VALUE).askNumber("-C1", Integer.MAX_VALUE);
        d.askNumber("+-C12", Integer.MIN_VALUE + 1).askNumber("-0C", Integer.MIN_VALUE).askNumber("*CC", 0);
        d.askNumber("/C-01", Integer.MIN_VALUE).askNumber("%C-01", 0).askNumber("<C-C1", 1).askNumber("<-C1C", 0);
        d.askNumber("*-C12", -2);
    }

    private static void dividesTowardsZero() {
        Driver d = new Driver().askNumber("/-072", -3).askNumber("/7-02", -3).askNumber("/-07-02", 3);
        d.askNumber("%-072", -1).askNumber("%7-02", 1).askNumber("%-07-02", -1).askNumber("/05", 0).askNumber("%05", 0);
        d.askThrows("/50", Driver.ARITHMETIC).askThrows("%50", Driver.ARITHMETIC).askThrows("/00", Driver.ARITHMETIC);
        d.askThrows("%5-33", Driver.ARITHMETIC);
    }

    /** The first part is looked at before the second is worked out. */
    private static void refusesWhatIsNoNumber() {
        Driver d = new Driver().define("Aa=a", 1);
        for (char sign : "+-*/%<=".toCharArray()) {
            for (String no : new String[] {"n", ":11", "A"}) {
                d.askThrows(sign + no + "1", Driver.UNSUPPORTED).askThrows(sign + "1" + no, Driver.UNSUPPORTED);
                d.askThrows(sign + no + "/10", Driver.UNSUPPORTED).askThrows(sign + no + "F", Driver.UNSUPPORTED);
                d.askThrows(sign + "/10" + no, Driver.ARITHMETIC).askThrows(sign + "F" + no, Driver.MISSING);
            }
            d.askThrows(sign + "n0", Driver.UNSUPPORTED).askThrows(sign + "F/10", Driver.MISSING);
        }
    }

    private static void worksNames() {
        Driver d = new Driver().define("A=+12", 0).define("Ba=a", 1);
        d.askNumber("A", 3).count(3, 1).count(7, 3).ask("B", Driver.FUNCTION).count(3, 0).count(7, 1);
        d.askThrows("C", Driver.MISSING).count(3, 0).count(7, 1).askNumber("+AA", 6).count(3, 2);
    }

    private static void applies() {
        Driver d = new Driver().define("Aabc=-a-bc", 3).define("B=.A9", 0).define("Ca=.a1", 1).define("D=4", 0);
        d.ask(".A1", Driver.FUNCTION).ask("..A12", Driver.FUNCTION).askNumber("...A952", 6).count(3, 1);
        d.askNumber("..B52", 6).count(3, 2).ask("B", Driver.FUNCTION).askNumber(".C..A95", 5).ask(".CA", Driver.FUNCTION);
        d.askThrows(".11", Driver.UNSUPPORTED).askThrows(".n1", Driver.UNSUPPORTED).askThrows(".:121", Driver.UNSUPPORTED);
        d.askThrows("....A9521", Driver.UNSUPPORTED).count(3, 1).askThrows(".D1", Driver.UNSUPPORTED).count(3, 1);
        d.askThrows(".F1", Driver.MISSING).askThrows("./101", Driver.ARITHMETIC);
        d.define("Eab=b", 2).askNumber("..EF1", 1).askThrows("..E1F", Driver.MISSING).askNumber("..E/105", 5);
        d.define("Ea=A", 1).askNumber("....E0952", 6).count(3, 2);
    }

    /** A FUNCTION that is kept while its NAME's DEFINITION is changed or taken away. */
    private static void appliesChangedDefinitions() {
        kept().define("Aa=+a1", 1).tail(Driver.NUMBER).number(2).count(3, 3);
        kept().define("A=8", 0).tail(Driver.NUMBER).number(8).count(3, 3);
        kept().define("Aabcd=a", 4).tail(Driver.FUNCTION).count(3, 2);
        kept().define("Aab=+b0", 2).tail(Driver.NUMBER).number(2);
        kept().define("Acba=-+b*a9c", 3).tail(Driver.NUMBER).number(2 + 36 - 1);
        kept().remove(0).tailThrows(Driver.MISSING).count(3, 2);
        kept().remove(0).define("Aabc=c", 3).tail(Driver.NUMBER).number(4);
    }

    /** Its head FORCES a FUNCTION of A with two ARGUMENTS, to which the tail then gives another third one. */
    private static Driver kept() {
        Driver d = new Driver().define("Aabc=a", 3).define("Ca=:.a3.a4", 1);
        return d.ask(".C..A12", Driver.PAIR).count(3, 1).head(1).count(3, 2);
    }

    private static void takesParts() {
        Driver d = new Driver().define("Aa=a", 1).askNumber("h:12", 1).askNumber("t:12", 2).ask("h:n2", Driver.NIL);
        d.ask("t:1:2n", Driver.PAIR).head(2).ask("h:A1", Driver.FUNCTION).askNumber("h:1/10", 1).askNumber("t:/101", 1);
        for (char sign : "ht".toCharArray()) {
            d.askThrows(sign + "n", Driver.MISSING).askThrows(sign + "1", Driver.UNSUPPORTED);
            d.askThrows(sign + "A", Driver.UNSUPPORTED).askThrows(sign + "F", Driver.MISSING);
            d.askThrows(sign + "/10", Driver.ARITHMETIC).askThrows(sign + ":/10/10", Driver.ARITHMETIC);
        }
    }

    private static void tellsNil() {
        Driver d = new Driver().define("Aa=a", 1).askNumber("zn", 1).askNumber("z:nn", 0).askNumber("z:/10F", 0);
        d.askThrows("z0", Driver.UNSUPPORTED).askThrows("zA", Driver.UNSUPPORTED).askThrows("zF", Driver.MISSING);
        d.askNumber("zt:1n", 1);
    }

    private static void chooses() {
        Driver d = new Driver().define("Aa=a", 1).askNumber("?123", 2).askNumber("?023", 3).askNumber("?-0123", 2);
        d.askNumber("?12/10", 2).askNumber("?0F3", 3).ask("?1n3", Driver.NIL).ask("?02A", Driver.FUNCTION);
        d.askThrows("?n11", Driver.UNSUPPORTED).askThrows("?:1111", Driver.UNSUPPORTED).askThrows("?A11", Driver.UNSUPPORTED);
        d.askThrows("?F11", Driver.MISSING).askThrows("?1/102", Driver.ARITHMETIC).askThrows("?02/10", Driver.ARITHMETIC);
    }
}
