@Part(name = "Terms: FAULTS", from = "Zeros up to the last byte's end.", to = "A call that throws")
public final class TermFaultsTest {
    /** One block at QP 3, its mode's bit included: nine bits. */
    private static final String ONE = "11" + "00100" + "0" + "1";

    public static void main(String[] args) {
        Check.run(TermFaultsTest.class);
    }

    private static void fault(String name, String bits, int fault, int place) {
        IntraMill mill = BitText.fed(bits).get();
        Check.same(name + ": unpack()", mill.unpack(), -fault);
        Check.same(name + ": place()", mill.place(), place);
    }

    private static void fault(String name, BitText bits, int fault, int place) {
        fault(name, bits.filled(), fault, place);
    }

    private static void good(String name, String bits) {
        fault(name, bits, 0, IntraMill.NONE);
    }

    private static void good(String name, BitText bits) {
        good(name, bits.filled());
    }

    private static BitText one() {
        return new BitText().raw(ONE);
    }

    @Says("FAULTS, the first as the bits are read,")
    static void theHeadComesBeforeAllElse() {
        fault("9 across, 9 down, QP 52", new BitText().u(8).u(8).u(52), 2, 0);
        fault("9 across, and no more", "00010010", 2, 0);
        fault("9 down, QP 52", new BitText().u(7).u(8).u(52), 2, 7);
        fault("QP 52, not all there", new BitText().u(0).u(7).u(52).filled().substring(0, 16), 1, 8);
    }

    @Says("FAULTS, the first as the bits are read,")
    static void aModeComesBeforeItsCoefficients() {
        fault("mode 0, and 17 coefficients", BitText.head(1, 1, 3, 0).mode(0, 2).u(17), 3, 9);
    }

    @Says("FAULTS, the first as the bits are read,")
    static void coefficientsComeInTheirOrder() {
        fault("a 0, then 16 zeros", one().u(2).u(0).s(0).u(16).s(1), 6, 13);
        fault("16 zeros, then a 0", one().u(2).u(16).s(0), 5, 12);
        fault("17 of them, and no more", one().u(17).filled().substring(0, 24), 4, 9);
    }

    @Says("FAULTS, the first as the bits are read,")
    static void oneBlockComesBeforeTheNext() {
        BitText bits = BitText.head(2, 1, 3, 0).raw("1").u(1).u(0);
        int due = bits.length();
        fault("a 0 in the first, no mode in the second", bits.s(0).mode(0, 2), 6, due);
    }

    @Says("FAULTS, the first as the bits are read,")
    static void whatIsLeftComesLast() {
        fault("a mode, and bytes left", BitText.head(1, 1, 3, 0).mode(8, 2).filled() + "1".repeat(32), 3, 9);
    }

    @Says("at the bit where its U, S, or bits begin")
    static void atTheFirstBitOfAU() {
        fault("across", new BitText().u(8), 2, 0);
        fault("down", new BitText().u(1).u(8), 2, 3);
        fault("QP", new BitText().u(1).u(2).u(52), 2, 6);
        fault("how many", one().u(17), 4, 9);
        fault("zeros", one().u(2).u(1).s(1).u(14), 5, 18);
    }

    @Says("at the bit where its U, S, or bits begin")
    static void atTheFirstBitOfAnS() {
        fault("behind no zeros", one().u(1).u(0).s(-3000), 6, 13);
        fault("behind 15 zeros", one().u(1).u(15).s(3000), 6, 21);
    }

    @Says("at the bit where its U, S, or bits begin")
    static void atABitThatIsNotThere() {
        fault("the first block's", "11" + "00100" + "0", 1, 8);
        fault("the second block's", "010" + "1" + "1" + "0" + "11", 1, 8);
    }

    @Says("(a mode's three bits behind the one before them):")
    static void aModeThatIsNotThere() {
        fault("mode 0", BitText.head(1, 1, 3, 0).mode(0, 2), 3, 9);
        fault("mode 8", BitText.head(1, 1, 3, 0).mode(8, 2), 3, 9);
    }

    @Says("(a mode's three bits behind the one before them):")
    static void oneOrTwoOrNoneOfTheThreeBits() {
        fault("one", "11" + "010" + "0" + "0" + "0", 1, 7);
        fault("two", "011" + "1" + "1" + "0" + "11" + "0001" + "1" + "0" + "00", 1, 14);
        fault("none", "011" + "1" + "010" + "0" + "11" + "0001" + "1" + "0", 1, 16);
    }

    @Says("1 a number, or a bit, is not all there,")
    static void noBitsAtAll() {
        fault("across", "", 1, 0);
    }

    @Says("1 a number, or a bit, is not all there,")
    static void zerosWithoutAOne() {
        fault("across", "00000000", 1, 0);
        fault("down", "1" + "0000000", 1, 1);
        fault("QP", "11" + "000000", 1, 2);
        fault("how many", "111" + "0" + "1" + "000", 1, 5);
    }

    @Says("1 a number, or a bit, is not all there,")
    static void aOneWithoutAllItsBits() {
        fault("across, four zeros and three bits", "00001111", 1, 0);
        fault("QP, three zeros and two bits", "1" + "1" + "000111", 1, 2);
        fault("how many", ONE + "0000001", 1, 9);
        fault("zeros", ONE + "010" + "0001", 1, 12);
        fault("a coefficient", ONE + "010" + "1" + "001", 1, 13);
    }

    @Says("1 a number, or a bit, is not all there,")
    static void aBlockThatIsNotThere() {
        fault("the second of two", "010" + "1" + "1" + "1" + "11", 1, 8);
        fault("the last of 64", BitText.head(8, 8, 51, 0).plain(63), 1, 152);
    }

    @Says("1 a number, or a bit, is not all there,")
    static void theLastByteOfAGoodPictureIsMissing() {
        String bits = one().levels(2048, -2048, 2048).filled();
        good("whole", bits);
        fault("cut", bits.substring(0, bits.length() - 8), 1, 67);
    }

    @Says("or n is above 15.")
    static void fifteenZerosAndSixteen() {
        fault("15 across", "0".repeat(15) + "1".repeat(17), 2, 0);
        fault("16 across", "0".repeat(16) + "1".repeat(24), 1, 0);
        fault("17 across", "0".repeat(17) + "1".repeat(31), 1, 0);
        fault("15, how many", one().raw("0".repeat(15) + "1".repeat(16)), 4, 9);
        fault("16, how many", one().raw("0".repeat(16) + "1".repeat(20)), 1, 9);
        fault("15, zeros", one().u(1).raw("0".repeat(15) + "1".repeat(16)), 5, 12);
        fault("16, zeros", one().u(1).raw("0".repeat(16) + "1".repeat(20)), 1, 12);
        fault("15, a coefficient", one().u(1).u(0).raw("0".repeat(15) + "1".repeat(16)), 6, 13);
        fault("16, a coefficient", one().u(1).u(0).raw("0".repeat(16) + "1".repeat(20)), 1, 13);
    }

    @Says("or n is above 15.")
    static void farMoreZeros() {
        fault("800 across", "0".repeat(800), 1, 0);
        fault("33 down", "1" + "0".repeat(33) + "1".repeat(38), 1, 1);
    }

    @Says("2 blocks above 8,")
    static void eightAreGoodNineAreNot() {
        good("8 across", BitText.head(8, 1, 3, 0).plain(8));
        good("8 down", BitText.head(1, 8, 3, 0).plain(8));
        fault("9 across", BitText.head(9, 1, 3, 0).plain(9), 2, 0);
        fault("9 down", BitText.head(1, 9, 3, 0).plain(9), 2, 1);
        fault("65535 across", BitText.head(65535, 1, 3, 0), 2, 0);
        fault("65535 down", BitText.head(1, 65535, 3, 0), 2, 1);
    }

    @Says("QP above 51.")
    static void qp51IsGood52IsNot() {
        good("51", BitText.head(1, 1, 51, 0).plain(1));
        fault("52", BitText.head(1, 1, 52, 0).plain(1), 2, 2);
        fault("64", BitText.head(1, 1, 64, 0).plain(1), 2, 2);
        fault("65534", BitText.head(1, 1, 65534, 0).plain(1), 2, 2);
    }

    private static void modes(int before, String wrong, String right) {
        for (char mode = '0'; mode <= '8'; mode++) {
            BitText bits = BitText.head(2, 2, 20, 1).plain(before);
            if (mode == '2') {
                bits.raw("1");
            } else {
                bits.mode(mode - '0', 2);
            }
            bits.levels().plain(3 - before);
            String name = "block " + before + " mode " + mode;
            if (wrong.indexOf(mode) >= 0) {
                fault(name, bits, 3, 16 + 2 * before + 1);
            } else {
                Check.same(name + " is due", right.indexOf(mode) >= 0);
                good(name, bits);
            }
        }
    }

    @Says("3 a mode that needs what is not there.")
    static void inTheFirstBlock() {
        modes(0, "01345678", "2");
    }

    @Says("3 a mode that needs what is not there.")
    static void inTheFirstRow() {
        modes(1, "034567", "128");
    }

    @Says("3 a mode that needs what is not there.")
    static void inTheFirstColumn() {
        modes(2, "14568", "0237");
    }

    @Says("3 a mode that needs what is not there.")
    static void nowhereElse() {
        modes(3, "", "012345678");
    }

    @Says("4 more than 16 coefficients.")
    static void sixteenAreGoodSeventeenAreNot() {
        good("16", one().levels(1, 1, 1, 1, 1, 1, 1, 1, 1, 1, 1, 1, 1, 1, 1, 1));
        fault("17", one().u(17).raw("1010".repeat(17)), 4, 9);
        fault("65534", one().u(65534), 4, 9);
    }

    @Says("5 zeros that lead beyond the 16th,")
    static void fifteenAreGoodSixteenAreNot() {
        good("15", one().u(1).u(15).s(1));
        fault("16", one().u(1).u(16).s(1), 5, 12);
        fault("65534", one().u(1).u(65534).s(1), 5, 12);
    }

    @Says("5 zeros that lead beyond the 16th,")
    static void behindAnotherCoefficient() {
        good("0 and 14", one().u(2).u(0).s(1).u(14).s(1));
        fault("0 and 15", one().u(2).u(0).s(1).u(15).s(1), 5, 16);
        good("7 and 7", one().u(2).u(7).s(1).u(7).s(1));
        fault("7 and 8", one().u(2).u(7).s(1).u(8).s(1), 5, 22);
    }

    @Says("5 zeros that lead beyond the 16th,")
    static void noneBehindThe16th() {
        fault("15 and 0", one().u(2).u(15).s(1).u(0).s(1), 5, 24);
    }

    @Says("6 a 0,")
    static void aCoefficientOfZero() {
        fault("the first", one().u(1).u(0).s(0), 6, 13);
        fault("the second", one().u(2).u(0).s(1).u(0).s(0), 6, 17);
        good("1", one().u(1).u(0).s(1));
        good("-1", one().u(1).u(0).s(-1));
    }

    @Says("or a size above 2048.")
    static void size2048IsGood2049IsNot() {
        good("2048", one().u(1).u(0).s(2048));
        good("-2048", one().u(1).u(0).s(-2048));
        fault("2049", one().u(1).u(0).s(2049), 6, 13);
        fault("-2049", one().u(1).u(0).s(-2049), 6, 13);
    }

    @Says("or a size above 2048.")
    static void theGreatestSizes() {
        fault("32767", one().u(1).u(0).s(32767), 6, 13);
        fault("-32767", one().u(1).u(0).s(-32767), 6, 13);
    }

    @Says("7 more than seven bits are left,")
    static void sevenAreGoodEightAreNot() {
        String seventeen = "010" + "1" + "00100" + "0" + "11" + "0001" + "1";
        good("7", seventeen + "0000000");
        fault("15", seventeen + "000000000000000", 7, 17);
        good("0", "11011011");
        fault("8", "11011011" + "00000000", 7, 8);
        fault("8 ones", "11011011" + "11111111", 7, 8);
    }

    @Says("7 more than seven bits are left,")
    static void farMore() {
        fault("1608", "11011011" + "0".repeat(1608), 7, 8);
    }

    @Says("or one of them is 1")
    static void theFirstTheLastOrAllOfThem() {
        String seventeen = "010" + "1" + "00100" + "0" + "11" + "0001" + "1";
        fault("the first", seventeen + "1000000", 7, 17);
        fault("the last", seventeen + "0000001", 7, 17);
        fault("the fourth", seventeen + "0001000", 7, 17);
        fault("all", seventeen + "1111111", 7, 17);
        fault("the last of two", "111011" + "01", 7, 6);
    }

    @Says("(at the first that is left).")
    static void notAtTheBitThatIsOne() {
        fault("the last of six", "1100100011" + "000001", 7, 10);
        fault("one in the next byte", "1100100011" + "000000" + "00000001", 7, 10);
    }
}
