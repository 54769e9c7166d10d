@Part(name = "Terms: PICTURE, COEFFICIENTS, QP", from = "## Terms", to = "FORETELLING, by")
public final class TermPictureTest {
    public static void main(String[] args) {
        Check.run(TermPictureTest.class);
    }

    @Says("A PICTURE has 1 to 8 BLOCKS each way,")
    static void begunWithOneAndEight() {
        Check.same("1", Made.begun(1, 1).get().about(0), 1);
        Check.same("8", Made.begun(8, 8).get().about(1), 8);
        Check.refused("begin(0, 8)", IntraMill::new, mill -> mill.begin(0, 8));
        Check.refused("begin(8, 9)", IntraMill::new, mill -> mill.begin(8, 9));
    }

    @Says("A PICTURE has 1 to 8 BLOCKS each way,")
    static void unpackedWithOneAndEight() {
        Check.same("1 by 1", BitText.head(1, 1, 9, 0).plain(1).fed().get().unpack(), 0);
        Check.same("8 by 8", BitText.head(8, 8, 9, 0).plain(64).fed().get().unpack(), 0);
        Check.same("9 by 1", BitText.head(9, 1, 9, 0).plain(9).fed().get().unpack(), -2);
        Check.same("1 by 9", BitText.head(1, 9, 9, 0).plain(9).fed().get().unpack(), -2);
    }

    @Says("of 4 by 4 PIXELS 0 .. 255,")
    static void aBlockHasFourByFour() {
        Check.same("pixels", Sight.pixels(Made.begun(1, 1)), "0 0 0 0 \n".repeat(4));
        Check.same("pixels", Sight.pixels(Made.begun(2, 3)), Made.grey(2, 3, 0));
    }

    @Says("of 4 by 4 PIXELS 0 .. 255,")
    static void eachGreyCanBePut() {
        for (int grey = 0; grey < 256; grey++) {
            Check.same("grey", Made.flat(1, 1, grey).pixel(2, 2), grey);
        }
    }

    @Says("pixel (x, y) from left to right and from above.")
    static void xGoesToTheRightAndYDown() {
        IntraMill mill = Made.begun(2, 2).get();
        mill.put(0, 0, 0x01020304);
        mill.put(1, 0, 0x05060708);
        mill.put(0, 1, 0x090a0b0c);
        Check.same("pixel(0, 0)", mill.pixel(0, 0), 1);
        Check.same("pixel(1, 0)", mill.pixel(1, 0), 2);
        Check.same("pixel(7, 0)", mill.pixel(7, 0), 8);
        Check.same("pixel(0, 1)", mill.pixel(0, 1), 9);
    }

    /** The second and the fourth of three by two blocks are darker. */
    @Says("Blocks come row by row.")
    static void theFourthOfThreeByTwoBeginsTheSecondRow() {
        IntraMill mill = BitText.head(3, 2, 24, 0).plain(1).one(0, -4).one(0, 4).one(0, -8).plain(2).unpacked().get();
        String row = "128 128 128 128 118 118 118 118 128 128 128 128 \n";
        Check.same("the first row", Sight.pixels(() -> mill).substring(0, row.length()), row);
        Check.same("pixel(0, 4)", mill.pixel(0, 4), 108);
        Check.same("block(3, 0)", mill.block(3, 0), -8);
        Check.same("foretold(3, 1, 0, 0): the first column", mill.foretold(3, 1, 0, 0), IntraMill.NONE);
        Check.same("foretold(3, 0, 0, 0)", mill.foretold(3, 0, 0, 0), 128);
        Check.same("foretold(4, 1, 0, 0)", mill.foretold(4, 1, 0, 0), 108);
    }

    @Says("COEFFICIENTS of a block are 16,")
    static void sixteenAndNoMore() {
        IntraMill mill = BitText.head(1, 1, 9, 0).one(15, 7).unpacked().get();
        Check.same("block(0, 15)", mill.block(0, 15), 7);
        Check.refused("block(0, 16)", () -> mill, same -> same.block(0, 16));
    }

    @Says("c(u, v) with u across and v down;")
    static void theSecondGoesAcrossTheThirdDown() {
        Check.same("c(1, 0)", Sight.pixels(BitText.head(1, 1, 12, 0).one(1, 4).unpacked()),
                "131 130 126 125 \n".repeat(4));
        Check.same("c(0, 1)", Sight.pixels(BitText.head(1, 1, 12, 0).one(2, 4).unpacked()),
                "131 131 131 131 \n130 130 130 130 \n126 126 126 126 \n125 125 125 125 \n");
    }

    /** At QP 30 V is 10, 16 or 13, times 32. */
    @Says("in the order (u, v): 00 10 01 02 11 20 30 21 12 03 13 22 31 32 23 33.")
    static void eachCoefficientHasItsPlace() {
        for (int i = 0; i < 16; i++) {
            Check.same("coefficient " + i, Sight.pixels(BitText.head(1, 1, 30, 0).one(i, 3).unpacked()),
                    Wave.pixels(i, 3 * 32 * Wave.pick(i, 10, 16, 13)));
        }
    }

    @Says("QP is 0 .. 51.")
    static void packedWith0And51() {
        Check.same("pack(0)", Made.used().pack(0, true) > 0);
        Check.same("pack(51)", Made.used().pack(51, true) > 0);
        Check.refused("pack(-1)", Made::used, mill -> mill.pack(-1, true));
        Check.refused("pack(52)", Made::used, mill -> mill.pack(52, true));
    }

    @Says("QP is 0 .. 51.")
    static void unpackedWith0And51() {
        Check.same("0", BitText.head(1, 1, 0, 0).plain(1).fed().get().unpack(), 0);
        Check.same("51", BitText.head(1, 1, 51, 0).plain(1).fed().get().unpack(), 0);
        Check.same("52", BitText.head(1, 1, 52, 0).plain(1).fed().get().unpack(), -2);
    }
}
