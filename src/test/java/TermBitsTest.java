@Part(name = "Terms: THE BITS", from = "q q - d, brought to 0 .. 255.", to = "FAULTS, the first")
public final class TermBitsTest {
    /** U of 0 to 8. */
    private static final String[] U = {
        "1", "010", "011", "00100", "00101", "00110", "00111", "0001000", "0001001"
    };

    public static void main(String[] args) {
        Check.run(TermBitsTest.class);
    }

    private static String packed(IntraMill mill, int qp, boolean smooth) {
        mill.pack(qp, smooth);
        return Sight.bits(() -> mill);
    }

    private static String filled(String bits) {
        return new BitText().raw(bits).filled();
    }

    private static IntraMill unpacked(String bits) {
        IntraMill mill = BitText.fed(filled(bits)).get();
        Check.same("unpack() of " + bits, mill.unpack(), 0);
        return mill;
    }

    private static int mode(IntraMill mill, int block) {
        return mill.block(block, IntraMill.NONE);
    }

    @Says("THE BITS, of each byte the highest first.")
    static void theHighestBitIsTheFirst() {
        IntraMill mill = Made.flat(1, 1, 128);
        mill.pack(0, false);
        Check.same("1 1 1 0 1 1 00", mill.bits(0), 0xec);
        Check.same("unpack()", mill.unpack(), 0);
        mill.alter(0, 0x37);
        Check.same("00110 1 1 1, six across, and no mode", mill.unpack(), -1);
        Check.same("place()", mill.place(), 8);
    }

    @Says("U is a number by n zeros, a one and n bits: 2^n - 1 and these,")
    static void packWritesEachNumber() {
        for (int n = 0; n < 8; n++) {
            Check.same("QP " + n, packed(Made.flat(1, 1, 128), n, false), filled("11" + U[n] + "0" + "11"));
        }
    }

    @Says("U is a number by n zeros, a one and n bits: 2^n - 1 and these,")
    static void unpackReadsEachNumber() {
        for (int n = 0; n < 8; n++) {
            Check.same("across", unpacked(U[n] + "1" + "1" + "0" + "11".repeat(n + 1)).about(0), n + 1);
            Check.same("down", unpacked("1" + U[n] + "1" + "0" + "11".repeat(n + 1)).about(1), n + 1);
            Check.same("QP", unpacked("11" + U[n] + "0" + "11").about(2), n);
        }
        Check.same("QP 51", unpacked("11" + "00000110100" + "0" + "11").about(2), 51);
    }

    /** A coefficient's S with 15 zeros is a number, if one that is too great; with 16 it is none. */
    @Says("n at most 15;")
    static void fifteenZerosAreANumberAndSixteenAreNot() {
        String before = "1110" + "1" + "010" + "1";
        Check.same("15", BitText.fed(filled(before + "0".repeat(15) + "1".repeat(16))).get().unpack(), -6);
        Check.same("16", BitText.fed(filled(before + "0".repeat(16) + "1".repeat(17))).get().unpack(), -1);
    }

    @Says("S one that is 0, 1, -1, 2, -2, .. by U.")
    static void unpackReadsThemInTurn() {
        int[] due = {0, 1, -1, 2, -2, 3, -3, 4, -4};
        for (int n = 1; n < due.length; n++) {
            Check.same("S by U " + n, unpacked("1110" + "1" + "010" + "1" + U[n]).block(0, 0), due[n]);
        }
        Check.same("S by U 0", BitText.fed(filled("1110" + "1" + "010" + "1" + U[0])).get().unpack(), -6);
    }

    @Says("S one that is 0, 1, -1, 2, -2, .. by U.")
    static void theGreatestAndTheLeast() {
        String before = "1110" + "1" + "010" + "1";
        String zeros = "0".repeat(12);
        Check.same("U 4095", unpacked(before + zeros + "1" + zeros).block(0, 0), 2048);
        Check.same("U 4096", unpacked(before + zeros + "1" + "000000000001").block(0, 0), -2048);
    }

    /** At QP 24 one level of c(0, 0) is 2.5: greys of 3 and 5 more or less than 128 are 1 and 2 of them. */
    @Says("S one that is 0, 1, -1, 2, -2, .. by U.")
    static void packWritesThem() {
        int[] greys = {131, 125, 133, 123};
        for (int n = 1; n <= 4; n++) {
            Check.same("grey " + greys[n - 1], packed(Made.flat(1, 1, greys[n - 1]), 24, false),
                    filled("11" + "000011001" + "0" + "1" + "010" + "1" + U[n]));
        }
    }

    @Says("U blocks across less 1, U blocks down less 1, U QP, a bit whether it is smoothed.")
    static void theHeadInItsOrder() {
        IntraMill mill = unpacked("010" + "011" + "000010101" + "1" + "11".repeat(6));
        Check.same("across", mill.about(0), 2);
        Check.same("down", mill.about(1), 3);
        Check.same("QP", mill.about(2), 20);
        Check.same("smoothed", mill.about(3), 1);
        String bits = packed(Made.flat(2, 3, 128, 128, 128, 128, 128, 128), 20, true);
        Check.same("packed", bits.substring(0, 16), "010" + "011" + "000010101" + "1");
    }

    @Says("U blocks across less 1, U blocks down less 1, U QP, a bit whether it is smoothed.")
    static void theLeastAndTheGreatestHead() {
        Check.same("the least", packed(Made.flat(1, 1, 128), 0, false).substring(0, 4), "1110");
        int[] greys = new int[64];
        String bits = packed(Made.flat(8, 8, greys), 51, true);
        Check.same("the greatest", bits.substring(0, 26), "0001000" + "0001000" + "00000110100" + "1");
    }

    @Says("Of each block: a bit 1 if its mode is the LIKELY one:")
    static void oneBitForTheLikelyMode() {
        Check.same("packed", packed(Made.flat(1, 1, 128), 0, false), filled("1110" + "1" + "1"));
        Check.same("unpacked", mode(unpacked("1110" + "1" + "1"), 0), 2);
    }

    /** Above the last block is mode 8 or 1, on its left mode 7 or 3. */
    @Says("the lesser of those of the blocks above and on the left,")
    static void whicheverIsTheLesser() {
        String head = "010" + "010" + "1" + "0" + "11";
        Check.same("8 above, 7 left", mode(unpacked(head + "0111" + "1" + "0110" + "1" + "1" + "1"), 3), 7);
        Check.same("1 above, 3 left", mode(unpacked(head + "0001" + "1" + "0010" + "1" + "1" + "1"), 3), 1);
        Check.same("2 above, 2 left", mode(unpacked(head + "1" + "1" + "1" + "1" + "1" + "1"), 3), 2);
        Check.same("1 above, 0 left", mode(unpacked(head + "0001" + "1" + "0000" + "1" + "1" + "1"), 3), 0);
    }

    @Says("the lesser of those of the blocks above and on the left,")
    static void packTakesTheLesserToo() {
        Check.same("modes 2 1 0 0", packed(Made.flat(2, 2, 128, 128, 128, 128), 0, false),
                filled("010" + "010" + "1" + "0" + "11" + "0001" + "1" + "0000" + "1" + "1" + "1"));
    }

    /** The other one's mode, 1 or 0, is less than 2, or 8 is more: it does not count. */
    @Says("2 if one is not there;")
    static void inTheFirstRow() {
        Check.same("behind mode 1", mode(unpacked("011" + "1" + "1" + "0" + "11" + "0001" + "1" + "11"), 2), 2);
        Check.same("behind mode 8", mode(unpacked("011" + "1" + "1" + "0" + "11" + "0111" + "1" + "11"), 2), 2);
        Check.same("packed, modes 2 1 1", packed(Made.flat(3, 1, 128, 128, 128), 0, false),
                filled("011" + "1" + "1" + "0" + "11" + "0001" + "1" + "0001" + "1"));
    }

    @Says("2 if one is not there;")
    static void inTheFirstColumn() {
        Check.same("below mode 0", mode(unpacked("1" + "011" + "1" + "0" + "11" + "0000" + "1" + "11"), 2), 2);
        Check.same("below mode 7", mode(unpacked("1" + "011" + "1" + "0" + "11" + "0110" + "1" + "11"), 2), 2);
        Check.same("packed, modes 2 0 0", packed(Made.flat(1, 3, 128, 128, 128), 0, false),
                filled("1" + "011" + "1" + "0" + "11" + "0000" + "1" + "0000" + "1"));
    }

    @Says("2 if one is not there;")
    static void inTheFirstBlock() {
        Check.same("of 8 by 8", mode(unpacked(BitText.head(8, 8, 3, 0).plain(64).filled()), 0), 2);
    }

    /** The first mode of each list is coded 0, the next 1. */
    private static void modesWhereLikely(String before, int block, int... modes) {
        for (int k = 0; k < modes.length; k++) {
            String three = Integer.toBinaryString(8 + k).substring(1);
            Check.same("bits " + three, mode(unpacked(before + "0" + three + "1"), block), modes[k]);
        }
    }

    @Says("otherwise 0 and three bits, the mode,")
    static void theModesBelowTheLikelyOne() {
        String head = "010" + "010" + "1" + "0" + "11";
        modesWhereLikely(head + "0111" + "1" + "0110" + "1", 3, 0, 1, 2, 3, 4, 5, 6, 8);
    }

    @Says("less 1 if it is above the likely one.")
    static void theModesAboveTheLikelyOne() {
        String head = "010" + "010" + "1" + "0" + "11";
        modesWhereLikely(head + "0001" + "1" + "0000" + "1", 3, 1, 2, 3, 4, 5, 6, 7, 8);
        modesWhereLikely(head + "11" + "11", 3, 0, 1, 3, 4, 5, 6, 7, 8);
    }

    /** Blocks 2 and 4 of three by two have mode 8, so that it is the likely one of block 5: none is above it. */
    @Says("less 1 if it is above the likely one.")
    static void whereTheLikelyOneIsTheLast() {
        String head = "011" + "010" + "1" + "0" + "11" + "0111" + "1" + "0111" + "1" + "11" + "0111" + "1";
        modesWhereLikely(head, 5, 0, 1, 2, 3, 4, 5, 6, 7);
        Check.same("likely", mode(unpacked(head + "1" + "1"), 5), 8);
    }

    @Says("U how many coefficients are not 0;")
    static void noneAndSixteen() {
        Check.same("none", unpacked("1110" + "1" + "1").block(0, 0), 0);
        IntraMill mill = unpacked("1110" + "1" + "000010001" + ("1" + "010").repeat(16));
        for (int i = 0; i < 16; i++) {
            Check.same("of sixteen, coefficient " + i, mill.block(0, i), 1);
        }
    }

    /** A light corner at QP 0 makes all sixteen. */
    @Says("U how many coefficients are not 0;")
    static void packWritesNoneAndSixteen() {
        Check.same("none", packed(Made.flat(1, 1, 128), 0, false), filled("1110" + "1" + "1"));
        IntraMill mill = Made.flat(1, 1, 128);
        mill.put(0, 0, 0xff808080);
        Check.same("sixteen", packed(mill, 0, false).substring(0, 15), "1110" + "1" + "000010001" + "1");
    }

    @Says("of each: U how many zeros are before it (behind the one before),")
    static void fifteenZerosLeadToTheLast() {
        Check.same("of one", unpacked("1110" + "1" + "010" + "000010000" + "010").block(0, 15), 1);
        IntraMill mill = unpacked("1110" + "1" + "011" + "1" + "010" + "0001111" + "011");
        Check.same("the first", mill.block(0, 0), 1);
        Check.same("fourteen zeros behind it", mill.block(0, 15), -1);
    }

    @Says("of each: U how many zeros are before it (behind the one before),")
    static void zerosAreCountedBehindTheOneBefore() {
        IntraMill mill = unpacked("1110" + "1" + "00100" + U[2] + "010" + U[0] + "011" + U[3] + "00100");
        Check.same("blocks", Sight.blocks(() -> mill), "2 0 0 1 -1 0 0 0 2 0 0 0 0 0 0 0 0 \n");
    }

    /** 10 more and 10 less, in and out, are c(2, 0) alone, the sixth in the order. */
    @Says("of each: U how many zeros are before it (behind the one before),")
    static void packCountsThem() {
        IntraMill mill = new IntraMill();
        for (int y = 0; y < 4; y++) {
            mill.put(0, y, 0x8a76768a);
        }
        Check.same("c(2, 0): 160 13107 and 174762, by 524288: 4", packed(mill, 24, false),
                filled("11" + "000011001" + "0" + "1" + "010" + U[5] + "0001000"));
    }

    @Says("S it.")
    static void eachHasItsNumberBehindItsZeros() {
        IntraMill mill = unpacked("1110" + "1" + "011" + U[1] + U[3] + U[8] + U[4]);
        Check.same("blocks", Sight.blocks(() -> mill), "2 0 2 0 0 0 0 0 0 0 0 -2 0 0 0 0 0 \n");
    }

    @Says("Zeros up to the last byte's end.")
    static void packFillsWithZeros() {
        Check.same("two of them", packed(Made.flat(1, 1, 128), 0, false), "111011" + "00");
        Check.same("six of them", packed(Made.flat(1, 1, 128), 3, false), "1100100011" + "000000");
    }

    @Says("Zeros up to the last byte's end.")
    static void noneWhereTheByteIsFull() {
        Check.same("one byte", packed(Made.flat(1, 1, 128), 2, false), "11011011");
        Check.same("unpacked", BitText.fed("11011011").get().unpack(), 0);
    }

    @Says("Zeros up to the last byte's end.")
    static void unpackTakesSevenOfThem() {
        Check.same("none", BitText.fed("11011011").get().unpack(), 0);
        String seventeen = "010" + "1" + "00100" + "0" + "11" + "0001" + "1";
        Check.same("seven", BitText.fed(seventeen + "0000000").get().unpack(), 0);
        Check.same("fifteen", BitText.fed(seventeen + "000000000000000").get().unpack(), -7);
    }

    @Says("Zeros up to the last byte's end.")
    static void packWritesSevenOfThem() {
        Check.same("modes 2 1", packed(Made.flat(2, 1, 128, 128), 3, false),
                "010" + "1" + "00100" + "0" + "11" + "0001" + "1" + "0000000");
    }
}
