@Part(name = "Promise 5: pack", from = "`int pack(int qp, boolean smooth) throws IllegalArgumentException`:",
        to = "## Promise 6")
public final class Promise05PackTest {
    public static void main(String[] args) {
        Check.run(Promise05PackTest.class);
    }

    private static String modes(IntraMill mill) {
        StringBuilder text = new StringBuilder();
        for (int block = 0; block < mill.about(0) * mill.about(1); block++) {
            text.append(mill.block(block, IntraMill.NONE));
        }
        return text.toString();
    }

    private static IntraMill packed(IntraMill mill, int qp, boolean smooth) {
        mill.pack(qp, smooth);
        return mill;
    }

    private static String pixels(IntraMill mill) {
        return Sight.pixels(() -> mill);
    }

    /** A picture that packing at QP 0 does not change any more. */
    private static IntraMill settled(int across, int down) {
        IntraMill first = Made.begun(across, down).get();
        for (int y = 0; y < 4 * down; y++) {
            for (int block = 0; block < across; block++) {
                first.put(block, y, (block * 71 + y * 37 + 11) * 0x0f1d2b39 & 0x7f7f7f7f | 0x20202020);
            }
        }
        String before = "";
        String now = pixels(first);
        IntraMill mill = first;
        for (int k = 0; k < 20 && !before.equals(now); k++) {
            mill = copy(mill);
            mill.pack(0, false);
            before = now;
            now = pixels(mill);
        }
        Check.same("the settled picture", before, now);
        return mill;
    }

    private static IntraMill copy(IntraMill mill) {
        IntraMill other = Made.begun(mill.about(0), mill.about(1)).get();
        for (int y = 0; y < 4 * mill.about(1); y++) {
            for (int block = 0; block < mill.about(0); block++) {
                other.put(block, y, four(mill, 4 * block, y));
            }
        }
        return other;
    }

    private static int four(IntraMill mill, int x, int y) {
        return mill.pixel(x, y) << 24 | mill.pixel(x + 1, y) << 16 | mill.pixel(x + 2, y) << 8 | mill.pixel(x + 3, y);
    }

    /** A settled picture where one block is just what a mode foretells. */
    private static IntraMill foretoldBlock(int across, int down, int block, int mode) {
        IntraMill settled = settled(across, down);
        IntraMill mill = copy(settled);
        for (int y = 0; y < 4; y++) {
            int four = 0;
            for (int x = 0; x < 4; x++) {
                four = four << 8 | settled.foretold(block, mode, x, y);
            }
            mill.put(block % across, 4 * (block / across) + y, four);
        }
        return mill;
    }

    @Says("The picture is packed: each block by the mode that it may have")
    static void theFirstBlockMayHaveTheMeanAlone() {
        Check.same("modes", modes(packed(Made.flat(1, 1, 0), 20, false)), "2");
        Check.same("modes", modes(packed(Made.flat(1, 1, 255), 20, false)), "2");
    }

    @Says("The picture is packed: each block by the mode that it may have")
    static void theFirstRowMayHaveNoModeFromAbove() {
        for (int mode : new int[] {1, 2, 8}) {
            IntraMill mill = packed(foretoldBlock(2, 1, 1, mode), 0, false);
            Check.same("mode", mill.block(1, IntraMill.NONE), mode);
            Check.same("coefficients", Sight.blocks(() -> mill).split("\n")[1], mode + " 0".repeat(16) + " ");
        }
    }

    @Says("The picture is packed: each block by the mode that it may have")
    static void theFirstColumnMayHaveNoModeFromTheLeft() {
        for (int mode : new int[] {0, 2, 3, 7}) {
            IntraMill mill = packed(foretoldBlock(1, 2, 1, mode), 0, false);
            Check.same("mode", mill.block(1, IntraMill.NONE), mode);
        }
    }

    /**
     * Each block has the lines, or the columns, of one before it, so that pixels that are not there, taken to be those
     * looked at before, would foretell it best; it is packed twice, so that there are such for the first block too.
     */
    @Says("The picture is packed: each block by the mode that it may have")
    static void pixelsLookedAtBeforeAreNotThere() {
        IntraMill lines = Made.begun(2, 2).get();
        IntraMill columns = Made.begun(2, 2).get();
        for (int round = 0; round < 2; round++) {
            for (int y = 0; y < 8; y++) {
                for (int block = 0; block < 2; block++) {
                    lines.put(block, y, 0x01010101 * (10 + y % 4 * 70));
                    columns.put(block, y, 0x0a5096dc);
                }
            }
            lines.pack(0, false);
            columns.pack(0, false);
            mayHave("lines", modes(lines));
            mayHave("columns", modes(columns));
        }
    }

    private static void mayHave(String name, String modes) {
        Check.same(name + ", the first block: 2", modes.charAt(0) == '2');
        Check.same(name + ", in the first row: one of 1 2 8", "128".indexOf(modes.charAt(1)) >= 0);
        Check.same(name + ", in the first column: one of 0 2 3 7", "0237".indexOf(modes.charAt(2)) >= 0);
    }

    /** All 128, all 0, all 255: what one might take for pixels that are not there. */
    @Says("The picture is packed: each block by the mode that it may have")
    static void noGreyIsTakenForPixelsThatAreNotThere() {
        for (int grey : new int[] {0, 128, 255}) {
            int other = 60;
            mayHave("grey " + grey, modes(packed(Made.flat(2, 2, other, grey, grey, other), 0, false)));
            mayHave("grey " + grey, modes(packed(Made.flat(2, 2, grey, other, other, grey), 0, false)));
        }
    }

    @Says("with the least sum of the sizes of its pixels less what is foretold")
    static void eachModeIsTakenWhereItForetellsAll() {
        for (int mode = 0; mode < 9; mode++) {
            IntraMill mill = packed(foretoldBlock(3, 2, 4, mode), 0, false);
            Check.same("mode", mill.block(4, IntraMill.NONE), mode);
            Check.same("coefficients", Sight.blocks(() -> mill).split("\n")[4], mode + " 0".repeat(16) + " ");
        }
    }

    /**
     * The block is the left one's last column drawn through, but for its first line, which is 20 darker: mode 1 leaves
     * sizes of 80 (squares of 1600), the mean, 128, sizes of 144 (squares of 1344).
     */
    @Says("with the least sum of the sizes of its pixels less what is foretold")
    static void theSizesAreAddedNotTheirSquares() {
        IntraMill mill = Made.begun(2, 1).get();
        for (int y = 0; y < 4; y++) {
            int left = y % 2 == 0 ? 136 : 120;
            mill.put(0, y, 0x01010101 * left);
            mill.put(1, y, 0x01010101 * left + (y == 0 ? -0x14141414 : 0));
        }
        mill.pack(0, false);
        Check.same("the left block's column", pixels(mill).split("\n")[0].substring(0, 16),
                "136 136 136 136 ");
        Check.same("the left block's column", pixels(mill).split("\n")[3].substring(0, 16),
                "120 120 120 120 ");
        Check.same("modes", modes(mill), "21");
    }

    /** Half of the pixels above and half below what is foretold are no better for it. */
    @Says("with the least sum of the sizes of its pixels less what is foretold")
    static void sizesHaveNoSign() {
        IntraMill mill = Made.begun(2, 1).get();
        for (int y = 0; y < 4; y++) {
            mill.put(0, y, 0x01010101 * (y < 2 ? 148 : 108));
            mill.put(1, y, 0x01010101 * (y < 2 ? 150 : 110));
        }
        mill.pack(0, false);
        Check.same("the mean's sum would be 32, the sum of its sizes is 320", modes(mill), "21");
    }

    @Says("(the least of these),")
    static void theLowestModeOfEquals() {
        IntraMill mill = packed(Made.flat(2, 2, 128, 128, 128, 128), 30, false);
        Check.same("of 2; of 1 2 8; of 0 2 3 7; of all", modes(mill), "2100");
    }

    /** 72 above 128 comes back as 56 above at QP 51; 232 is 48 above that, but 32 above what was put. */
    @Says("by blocks as they come back.")
    static void foretoldFromWhatComesBack() {
        IntraMill mill = packed(Made.flat(2, 1, 200, 232), 51, false);
        Check.same("coefficient 0 of block 0", mill.block(0, 0), 1);
        Check.same("coefficient 0 of block 1", mill.block(1, 0), 1);
        Check.same("pixels", pixels(mill), "184 184 184 184 240 240 240 240 \n".repeat(4));
    }

    @Says("by blocks as they come back.")
    static void foretoldBeforeTheEdgesAreSmoothed() {
        int[] greys = {128, 140, 150, 128, 120, 140, 110, 128, 100};
        IntraMill plain = packed(Made.flat(3, 3, greys), 33, false);
        IntraMill smooth = packed(Made.flat(3, 3, greys), 33, true);
        Check.same("blocks", Sight.blocks(() -> smooth), Sight.blocks(() -> plain));
        Check.same("pixels are others", !Sight.pixels(() -> smooth).equals(Sight.pixels(() -> plain)));
    }

    @Says("The bits become that,")
    static void theBitsOfAFlatBlock() {
        Check.same("bits", Sight.bits(() -> packed(Made.flat(1, 1, 128), 20, false)),
                BitText.head(1, 1, 20, 0).plain(1).filled());
    }

    /** 12 more than foretold: 192 by the transform, times 10082, and 87381, by 2^18: 7. */
    @Says("The bits become that,")
    static void theBitsOfTwoBlocks() {
        Check.same("bits", Sight.bits(() -> packed(Made.flat(2, 1, 128, 140), 20, true)),
                BitText.head(2, 1, 20, 1).plain(1).mode(1, 2).levels(7).filled());
    }

    @Says("The bits become that,")
    static void thoseBeforeAreGone() {
        IntraMill mill = Made.flat(1, 1, 128);
        for (int k = 0; k < 100; k++) {
            mill.feed(-1);
        }
        Check.same("pack(51, true)", mill.pack(51, true), 2);
        Check.same("about(4)", mill.about(4), 2);
        Check.same("bits(2)", mill.bits(2), IntraMill.NONE);
        Check.same("feed(0)", mill.feed(0), 6);
    }

    @Says("The bits become that,")
    static void theyUnpackToTheSame() {
        for (int qp = 0; qp <= 51; qp++) {
            IntraMill mill = Made.flat(2, 2, 3, 250, 199, 27);
            mill.put(1, 6, 0x10a0f07f);
            mill.pack(qp, qp % 2 == 0);
            String packed = Sight.bits(() -> mill);
            Check.same("QP " + qp, Sight.of(() -> {
                IntraMill other = BitText.fed(packed).get();
                other.unpack();
                return other;
            }), Sight.of(() -> mill));
        }
    }

    @Says("the picture what comes back of it,")
    static void thePixelsAreThoseThatComeBack() {
        Check.same("7 times 13 times 8 is 728, and 32, by 64: 11", Sight.pixels(
                () -> packed(Made.flat(2, 1, 128, 140), 20, false)), "128 128 128 128 139 139 139 139 \n".repeat(4));
    }

    @Says("the picture what comes back of it,")
    static void thePictureKeepsItsSize() {
        IntraMill mill = packed(Made.white(3, 2), 51, true);
        Check.same("about(0)", mill.about(0), 3);
        Check.same("about(1)", mill.about(1), 2);
        Check.same("pixel(12, 0)", mill.pixel(12, 0), IntraMill.NONE);
        Check.same("pixel(0, 8)", mill.pixel(0, 8), IntraMill.NONE);
    }

    @Says("smoothed if told:")
    static void smoothedWhenTold() {
        Check.same("an edge of 11 where t is 3", Sight.pixels(
                () -> packed(Made.flat(2, 1, 128, 140), 20, true)), "128 128 128 131 136 139 139 139 \n".repeat(4));
    }

    @Says("smoothed if told:")
    static void notSmoothedWhenNotTold() {
        Check.same("an edge of 11", Sight.pixels(
                () -> packed(Made.flat(2, 1, 128, 140), 20, false)), "128 128 128 128 139 139 139 139 \n".repeat(4));
    }

    @Says("how many bytes.")
    static void oneByteThatIsFull() {
        IntraMill mill = Made.flat(1, 1, 128);
        Check.same("pack(2, false)", mill.pack(2, false), 1);
        Check.same("bits", Sight.bits(() -> mill), "11011011");
        Check.same("bits(1)", mill.bits(1), IntraMill.NONE);
    }

    @Says("how many bytes.")
    static void oneBitBeyondAByteIsAnother() {
        IntraMill mill = Made.flat(1, 1, 128);
        Check.same("pack(3, false)", mill.pack(3, false), 2);
        Check.same("bits", Sight.bits(() -> mill), "1100100011000000");
        Check.same("about(4)", mill.about(4), 2);
    }

    /** Extremes at QP 0 make the most bytes; they are far from 8000, as all sizes are from 2048. */
    @Says("how many bytes.")
    static void theGreatestPictureOfExtremes() {
        IntraMill mill = Made.begun(8, 8).get();
        for (int y = 0; y < 32; y++) {
            for (int block = 0; block < 8; block++) {
                mill.put(block, y, (y & 1) == 0 ? 0xff00ff00 : 0x00ff00ff);
            }
        }
        int bytes = mill.pack(0, false);
        Check.same("bytes below 8000", bytes < 8000);
        Check.same("the last is there", mill.bits(bytes - 1) != IntraMill.NONE);
        Check.same("none is behind it", mill.bits(bytes), IntraMill.NONE);
        Check.same("pixel(0, 0)", mill.pixel(0, 0), 255);
        Check.same("pixel(31, 0)", mill.pixel(31, 0), 0);
        Check.same("unpack()", mill.unpack(), 0);
        Check.same("pixel(31, 0)", mill.pixel(31, 0), 0);
        Check.same("pixel(31, 31)", mill.pixel(31, 31), 255);
    }

    @Says("IllegalArgumentException: qp is not 0 .. 51.")
    static void qpBelowZero() {
        Check.refused("pack(-1, true)", Made::used, mill -> mill.pack(-1, true));
        Check.refused("pack(-1, false)", IntraMill::new, mill -> mill.pack(-1, false));
    }

    @Says("IllegalArgumentException: qp is not 0 .. 51.")
    static void qpAbove51() {
        Check.refused("pack(52, true)", Made::used, mill -> mill.pack(52, true));
        Check.refused("pack(52, false)", IntraMill::new, mill -> mill.pack(52, false));
    }

    @Says("IllegalArgumentException: qp is not 0 .. 51.")
    static void theFarthestNumbers() {
        Check.refused("pack(MIN)", Made::used, mill -> mill.pack(Integer.MIN_VALUE, true));
        Check.refused("pack(MAX)", Made::used, mill -> mill.pack(Integer.MAX_VALUE, false));
    }

    @Says("IllegalArgumentException: qp is not 0 .. 51.")
    static void zeroAnd51AreGood() {
        Check.same("pack(0)", packed(Made.used(), 0, true).about(2), 0);
        Check.same("pack(51)", packed(Made.used(), 51, true).about(2), 51);
    }
}
