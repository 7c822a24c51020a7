/** Promise 2: type. */
public final class TypeTest {
    public static void main(String[] args) {
        addsTheHighestByteFirst();
        leavesZerosOut();
        refusesWhatIsNoCharacter();
        refusesMoreThanForty();
        refusesCharactersBeforeLength();
        Driver.end();
    }

    private static void addsTheHighestByteFirst() {
        new Driver().type(0x2D37_3300_0000_0000L, 3).askNumber("", 4);
        new Driver().type(Driver.pack("-----987"), 8).type(Driver.pack("654"), 11).askNumber("", 9 - 8 - 7 - 6 - 5 - 4);
    }

    private static void leavesZerosOut() {
        new Driver().type(0L, 0).type(0x31L, 1).type(0L, 1);
        new Driver().type(0x2D00_0037_0000_3300L, 3).askNumber("", 4);
    }

    private static void refusesWhatIsNoCharacter() {
        for (int b = 1; b < 256; b++) {
            boolean right = b >= 33 && b <= 126;
            for (int shift = 0; shift < 64; shift += 8) {
                typeOne((long) b << shift, right);
            }
        }
        Driver d = new Driver().typeText("1").typeThrows(Driver.pack("234 "), Driver.BAD).count(1, 1);
        d.typeThrows(-1L, Driver.BAD).typeThrows(Long.MIN_VALUE, Driver.BAD).count(0, -1).askNumber("", 1);
    }

    private static void typeOne(long eight, boolean right) {
        if (right) {
            new Driver().type(eight, 1).count(1, 1);
        } else {
            new Driver().typeThrows(eight, Driver.BAD).count(1, 0);
        }
    }

    private static void refusesMoreThanForty() {
        String thirtyNine = "1".repeat(39);
        Driver d = new Driver().typeText(thirtyNine).typeThrows(Driver.pack("23"), Driver.STATE).count(1, 39);
        d.type(Driver.pack("!"), 40).type(0L, 40).typeThrows(Driver.pack("2"), Driver.STATE).count(1, 40);
        d.badAsk("", 1).count(1, 0).askNumber("7", 7);
    }

    private static void refusesCharactersBeforeLength() {
        String forty = "1".repeat(40);
        new Driver().typeText(forty).typeThrows(Driver.pack("1 "), Driver.BAD).count(1, 40);
        new Driver().typeText(forty).typeThrows(0x3131_3131_3131_31FFL, Driver.BAD).count(1, 40);
    }
}
