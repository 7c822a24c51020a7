/** Promise 2: type. */
public final class Promise2TypeTest {
    /** Nine sums of ones, of which the last two are still due. */
    private static final String SUMS = "+".repeat(9) + "1".repeat(8);

    public static void main(String[] args) throws ReflectiveOperationException {
        Sentences.run(Promise2TypeTest.class);
    }

    @Says("Adds the eight bytes of the number, highest first,")
    static void addsTheHighestByteFirst() {
        new Driver().type(Driver.pack("-----987"), 8).type(Driver.pack("654"), 11).askNumber("", 9 - 8 - 7 - 6 - 5 - 4);
        for (int i = 0; i < 8; i++) {
            String text = "+".repeat(i) + "x" + "+".repeat(7 - i);
            new Driver().type(Driver.pack(text), 8).badAsk("", i);
            new Driver().type(Driver.pack("+"), 1).type(Driver.pack(text), 9).badAsk("", i + 1);
        }
    }

    @Says("those that are 0 left out, to the text.")
    static void leavesZerosOut() {
        new Driver().type(0L, 0).badAsk("", 0);
        new Driver().type(0L, 0).type(0x31L, 1).type(0L, 1).askNumber("", 1);
        new Driver().type(0x2D00_0037_0000_3300L, 3).askNumber("", 4);
        new Driver().type(0x2D37_3300_0000_0000L, 3).askNumber("", 4);
        for (int shift = 0; shift < 64; shift += 8) {
            new Driver().type((long) '7' << shift, 1).askNumber("", 7);
        }
        for (int i = 0; i < 8; i++) {
            String seven = "---9432";
            new Driver().type(Driver.pack(seven.substring(0, i) + "\0" + seven.substring(i)), 7).askNumber("", 0);
        }
    }

    @Says("One not 33 .. 126: bad;")
    static void refusesBytesOutOfRange() {
        for (int b = 1; b < 256; b++) {
            boolean right = b >= 33 && b <= 126;
            for (int shift = 0; shift < 64; shift += 8) {
                typeOne((long) b << shift, right);
            }
        }
        new Driver().typeThrows(-1L, Driver.BAD).typeThrows(Long.MIN_VALUE, Driver.BAD).typeThrows(1L, Driver.BAD)
                .typeThrows(Long.MAX_VALUE, Driver.BAD).typeThrows(0x8080_8080_8080_8080L, Driver.BAD).count(1, 0);
    }

    private static void typeOne(long eight, boolean right) {
        if (right) {
            new Driver().type(eight, 1).count(1, 1);
        } else {
            new Driver().typeThrows(eight, Driver.BAD).count(1, 0);
        }
    }

    @Says({"One not 33 .. 126: bad;", "then none is added."})
    static void addsNoneWhenOneIsOutOfRange() {
        int[] wrong = {1, 32, 127, 128, 255};
        for (int b : wrong) {
            for (int i = 0; i < 8; i++) {
                String eight = "2".repeat(i) + (char) b + "2".repeat(7 - i);
                new Driver().typeText("+").typeThrows(Driver.pack(eight), Driver.BAD).count(1, 1).askNumber("34", 7);
            }
        }
    }

    @Says("more than 40 in all: IllegalStateException;")
    static void takesForty() {
        Driver d = new Driver();
        for (int length = 8; length <= 40; length += 8) {
            d.type(Driver.pack("11111111"), length);
        }
        d.type(0L, 40).typeThrows(Driver.pack("1"), Driver.STATE).typeThrows(0x3100_0000_0000_0000L, Driver.STATE);
        d.typeThrows(Driver.pack("11111111"), Driver.STATE).count(1, 40);
        for (int more = 1; more <= 8; more++) {
            String eight = "1".repeat(more);
            new Driver().typeText("1".repeat(40 - more)).type(Driver.pack(eight), 40);
            new Driver().typeText("1".repeat(41 - more)).typeThrows(Driver.pack(eight), Driver.STATE).count(1, 41 - more);
        }
    }

    /** Those that would still have had room are not added either. */
    @Says({"more than 40 in all: IllegalStateException;", "then none is added."})
    static void addsNoneWhenTheyAreTooMany() {
        String thirtyEight = "?0" + SUMS + "11" + SUMS;
        Driver d = new Driver().typeText(thirtyEight).typeThrows(Driver.pack("999"), Driver.STATE).count(1, 38);
        d.typeThrows(Driver.pack("99999999"), Driver.STATE).type(Driver.pack("1"), 39);
        d.typeThrows(Driver.pack("77"), Driver.STATE).type(Driver.pack("3"), 40).askNumber("", 12);
    }

    @Says({"One not 33 .. 126: bad;", "more than 40 in all: IllegalStateException;"})
    static void looksAtTheRangeBeforeTheLength() {
        Driver d = new Driver().typeText("1".repeat(40));
        d.typeThrows(Driver.pack("1 "), Driver.BAD).typeThrows(0x3131_3131_3131_31FFL, Driver.BAD);
        d.typeThrows(Driver.pack("\1" + "1111111"), Driver.BAD).count(1, 40);
    }

    @Says("Answers its length.")
    static void answersItsLength() {
        Driver d = new Driver();
        for (int length = 1; length <= 40; length++) {
            d.type(Driver.pack("1"), length).count(1, length);
        }
        d.badAsk("", 1).type(0L, 0).type(Driver.pack("22"), 2).type(Driver.pack("333"), 5).count(1, 5);
    }

    @Says({"to the text.", "then none is added."})
    static void changesNothingElse() {
        Driver d = new Driver().define("A=+12", 0).badDefine("B=", 2).askNumber("A", 3).type(Driver.pack("A"), 1);
        d.typeThrows(32L, Driver.BAD).typeThrows(127L, Driver.BAD).number(3).count(0, 2).count(2, 1).count(3, 1);
        d.type(Driver.pack("AAAAAAAA"), 9).typeText("A".repeat(31)).typeThrows(Driver.pack("A"), Driver.STATE);
        d.number(3).count(0, 2).count(2, 1).count(3, 1).count(4, 1).count(7, 3);
    }
}
