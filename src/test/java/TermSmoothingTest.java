@Part(name = "Terms: SMOOTHING", from = "F a third of 2^(15 + QP / 6), cut off.", to = "THE BITS, of each byte")
public final class TermSmoothingTest {
    public static void main(String[] args) {
        Check.run(TermSmoothingTest.class);
    }

    /** Two blocks, each with c(0, 0) and a coefficient that slopes towards the edge between them. */
    private static String edge(int qp, int smooth, boolean upright, int... levels) {
        BitText bits = upright ? BitText.head(2, 1, qp, smooth) : BitText.head(1, 2, qp, smooth);
        for (int k = 0; k < 4; k += 2) {
            bits.raw("1");
            if (upright) {
                bits.levels(levels[k], levels[k + 1]);
            } else {
                bits.levels(levels[k], 0, levels[k + 1]);
            }
        }
        IntraMill mill = bits.unpacked().get();
        StringBuilder four = new StringBuilder();
        for (int at = 2; at < 6; at++) {
            four.append(upright ? mill.pixel(at, 3) : mill.pixel(3, at)).append(' ');
        }
        return four.toString();
    }

    /** The four pixels across an edge, as they come back and as they are smoothed, upright and level. */
    private static void smooths(int qp, String before, String due, int... levels) {
        for (boolean upright : new boolean[] {true, false}) {
            String name = "QP " + qp + (upright ? ", upright" : ", level");
            Check.same(name + ", not smoothed", edge(qp, 0, upright, levels), before);
            Check.same(name + ", smoothed", edge(qp, 1, upright, levels), due);
        }
    }

    private static void leaves(int qp, String before, int... levels) {
        smooths(qp, before, before, levels);
    }

    /** Were it smoothed sooner, the block below the first would be foretold as 127. */
    @Says("SMOOTHING, when all blocks are there:")
    static void notBeforeTheLastBlock() {
        IntraMill mill = BitText.head(2, 2, 24, 1).plain(1).one(0, -5).plain(2).unpacked().get();
        Check.same("pixel(0, 7)", mill.pixel(0, 7), 128);
        Check.same("pixel(3, 0)", mill.pixel(3, 0), 124);
    }

    @Says("SMOOTHING, when all blocks are there:")
    static void packForetellsFromWhatIsNotSmoothed() {
        IntraMill mill = Made.flat(2, 2, 128, 116, 128, 122);
        mill.pack(24, true);
        Check.same("block(2, 0)", mill.block(2, 0), 0);
        Check.same("pixel(0, 7)", mill.pixel(0, 7), 128);
    }

    /** Five levels at QP 24 are 12 less, or 13 more; t is 4. */
    @Says("first at all upright edges between blocks, from left to right, line by line from above;")
    static void everyLineOfEveryUprightEdge() {
        IntraMill mill = BitText.head(3, 1, 24, 1).plain(1).one(0, -5).one(0, 5).unpacked().get();
        Check.same("pixels", Sight.pixels(() -> mill),
                "128 128 128 124 120 116 116 120 125 129 129 129 \n".repeat(4));
    }

    /** 72 is 56 below 128: near enough to the 0 of a pixel that is not there for QP 51. */
    @Says("first at all upright edges between blocks, from left to right, line by line from above;")
    static void notAtThePicturesOwnEdges() {
        Check.same("one block", Sight.pixels(BitText.head(1, 1, 51, 1).one(0, -1).unpacked()), Made.grey(1, 1, 72));
        Check.same("four", Sight.pixels(BitText.head(2, 2, 51, 1).one(0, -1).plain(3).unpacked()),
                Made.grey(2, 2, 72));
        Check.same("64", Sight.pixels(BitText.head(8, 8, 51, 1).one(0, -1).plain(63).unpacked()),
                Made.grey(8, 8, 72));
    }

    @Says("first at all upright edges between blocks, from left to right, line by line from above;")
    static void theEdgeOfTheEighthColumn() {
        IntraMill mill = BitText.head(8, 1, 24, 1).plain(7).one(0, -5).unpacked().get();
        Check.same("pixel(27, 3)", mill.pixel(27, 3), 124);
        Check.same("pixel(28, 3)", mill.pixel(28, 3), 120);
        Check.same("pixel(31, 3)", mill.pixel(31, 3), 116);
    }

    @Says("then at all level ones, from above, pixel by pixel from the left:")
    static void everyPixelOfEveryLevelEdge() {
        IntraMill mill = BitText.head(1, 3, 24, 1).plain(1).one(0, -5).one(0, 5).unpacked().get();
        StringBuilder due = new StringBuilder();
        for (int grey : new int[] {128, 128, 128, 124, 120, 116, 116, 120, 125, 129, 129, 129}) {
            due.append((grey + " ").repeat(4)).append('\n');
        }
        Check.same("pixels", Sight.pixels(() -> mill), due.toString());
    }

    @Says("then at all level ones, from above, pixel by pixel from the left:")
    static void theEdgeOfTheEighthRow() {
        IntraMill mill = BitText.head(1, 8, 24, 1).plain(7).one(0, -5).unpacked().get();
        Check.same("pixel(3, 27)", mill.pixel(3, 27), 124);
        Check.same("pixel(3, 28)", mill.pixel(3, 28), 120);
        Check.same("pixel(3, 31)", mill.pixel(3, 31), 116);
    }

    /** 128 | 116 above, 128 | 122 below; the level edge then sees 124 120 above 126 124, and not 128 116. */
    @Says("of the four pixels o, p | q, r across the edge (as they are then),")
    static void levelEdgesSeeTheUprightOnesSmoothed() {
        IntraMill mill = BitText.head(2, 2, 24, 1).plain(1).one(0, -5).plain(2).unpacked().get();
        Check.same("pixels", Sight.pixels(() -> mill), "128 128 128 124 120 116 116 116 \n".repeat(3)
                + "128 128 128 125 122 118 118 118 \n128 128 128 125 122 120 120 120 \n"
                + "128 128 128 126 124 122 122 122 \n".repeat(3));
    }

    /** QP 13: 169 / 24 is 7, cut off. */
    @Says("if the sizes of p - q, p - o, r - q are below QP QP / 24,")
    static void aStepJustBelow() {
        smooths(13, "116 117 111 112 ", "116 115 113 112 ", -20, -3, -6, -2);
        smooths(13, "116 117 123 122 ", "116 119 121 122 ", -20, -3, 5, 3);
    }

    @Says("if the sizes of p - q, p - o, r - q are below QP QP / 24,")
    static void aStepNotBelow() {
        leaves(13, "116 117 110 112 ", -20, -3, -6, -3);
        leaves(13, "116 117 124 122 ", -20, -3, 6, 3);
    }

    /** 16 / 24 is 0, cut off. */
    @Says("if the sizes of p - q, p - o, r - q are below QP QP / 24,")
    static void noStepIsSmallEnoughBelowQpFive() {
        leaves(0, "128 128 130 130 ", 0, 0, 12, 0);
        leaves(4, "128 128 131 131 ", 0, 0, 12, 0);
        leaves(4, "128 128 129 129 ", 0, 0, 4, 0);
    }

    /** 36 / 24 is 1 and 49 / 24 is 2: a step of 1 is smoothed from QP 7 on. */
    @Says("if the sizes of p - q, p - o, r - q are below QP QP / 24,")
    static void aStepOfOneAtTheLeastQp() {
        leaves(5, "127 128 127 128 ", -9, -8, 0, -2);
        leaves(6, "127 128 127 128 ", -9, -8, 0, -2);
        smooths(7, "127 128 127 128 ", "127 127 128 128 ", -9, -8, 0, -2);
    }

    /** At QP 51 108 is the bound, and t is 7. */
    @Says("if the sizes of p - q, p - o, r - q are below QP QP / 24,")
    static void atTheGreatestQp() {
        smooths(51, "128 128 184 184 ", "128 135 177 184 ", 0, 0, 1, 0);
        leaves(51, "128 128 240 240 ", 0, 0, 2, 0);
    }

    /** QP 27: 6 and 1 is 7; QP 23: 5 and 1 is 6. */
    @Says("QP / 4 + 1 and")
    static void aSlopeBeforeTheEdgeJustBelow() {
        smooths(27, "51 45 29 26 ", "51 41 33 26 ", -20, 3, -6, 1);
        smooths(23, "87 92 81 80 ", "87 89 84 80 ", -20, -3, -6, 1);
    }

    @Says("QP / 4 + 1 and")
    static void aSlopeBeforeTheEdgeNotBelow() {
        leaves(27, "55 48 36 32 ", -19, 3, -6, 2);
        leaves(27, "65 72 60 56 ", -20, -3, -6, 2);
    }

    @Says("and QP / 4 + 1 (cut off):")
    static void aSlopeBehindTheEdgeJustBelow() {
        smooths(27, "63 67 61 67 ", "63 64 64 67 ", -20, -2, 2, -3);
        smooths(23, "87 92 101 96 ", "87 95 98 96 ", -20, -3, 0, 3);
    }

    @Says("and QP / 4 + 1 (cut off):")
    static void aSlopeBehindTheEdgeNotBelow() {
        leaves(27, "63 67 64 71 ", -20, -2, 3, -3);
        leaves(27, "63 67 63 56 ", -20, -2, -5, 3);
    }

    @Says("d is (4 (q - p) + o - r + 4) / 8")
    static void sevenEighthsAreNoneAndEightAreOne() {
        leaves(13, "116 117 118 117 ", -20, -3, 0, 1);
        smooths(13, "116 117 119 120 ", "116 118 118 120 ", -20, -3, 5, -2);
    }

    @Says("(rounded down),")
    static void oneEighthBelowZeroIsOneLess() {
        leaves(13, "116 117 116 116 ", -20, -3, -2, 0);
        smooths(13, "116 117 116 117 ", "116 116 117 117 ", -20, -3, 0, -1);
    }

    /** QP 13: t is 1 and 1, cut off. */
    @Says("brought to -t .. t with t = QP / 8 + 1;")
    static void dIsJustT() {
        smooths(13, "116 117 121 120 ", "116 119 119 120 ", -20, -3, 2, 3);
        smooths(13, "116 117 111 112 ", "116 115 113 112 ", -20, -3, -6, -2);
    }

    @Says("brought to -t .. t with t = QP / 8 + 1;")
    static void dIsBroughtToT() {
        smooths(13, "114 113 119 118 ", "114 115 117 118 ", -20, 1, 5, 3);
        smooths(13, "116 118 112 113 ", "116 116 114 113 ", -19, -3, -6, -2);
    }

    @Says("p becomes p + d, q q - d,")
    static void theyComeNearerByTwice() {
        smooths(24, "128 128 126 126 ", "128 127 127 126 ", 0, 0, -1, 0);
        smooths(24, "128 128 116 116 ", "128 124 120 116 ", 0, 0, -5, 0);
    }

    @Says("brought to 0 .. 255.")
    static void notAbove255() {
        smooths(33, "254 255 255 250 ", "254 255 254 250 ", 16, -3, -2, 2);
        smooths(31, "249 255 255 255 ", "249 254 255 255 ", 20, -3, 0, 0);
    }

    @Says("brought to 0 .. 255.")
    static void notBelow0() {
        smooths(33, "0 0 0 5 ", "0 0 1 5 ", -19, 0, 2, -2);
        smooths(33, "5 0 0 0 ", "5 1 0 0 ", -17, 1, -6, 0);
    }
}
