@Part(name = "Terms: FORTH", from = "above 255 it is 255.", to = "SMOOTHING, when")
public final class TermForthTest {
    private static final int[] BOTH_EVEN = {13107, 11916, 10082, 9362, 8192, 7282};
    private static final int[] BOTH_ODD = {5243, 4660, 4194, 3647, 3355, 2893};
    private static final int[] OTHERWISE = {8066, 7490, 6554, 5825, 5243, 4559};
    /** How much of the pixel at each place of a line goes into each result. */
    private static final int[][] SHARES = {{1, 1, 1, 1}, {2, 1, -1, -2}, {1, -1, -1, 1}, {1, -2, 2, -1}};

    public static void main(String[] args) {
        Check.run(TermForthTest.class);
    }

    /** A block of 128, but for one pixel, packed. */
    private static IntraMill spot(int x, int y, int more, int qp) {
        IntraMill mill = Made.flat(1, 1, 128);
        mill.put(0, y, 0x80808080 + (more << (24 - 8 * x)));
        mill.pack(qp, false);
        return mill;
    }

    private static long level(int value, int factor, int qp) {
        long power = 1L << 15 + qp / 6;
        long size = (Math.abs((long) value) * factor + power / 3) / power;
        return value < 0 ? -size : size;
    }

    private static int factor(int i, int qp) {
        return Wave.pick(i, BOTH_EVEN[qp % 6], BOTH_ODD[qp % 6], OTHERWISE[qp % 6]);
    }

    private static void compare(int qp, int... coefficients) {
        for (int pixel : new int[] {0, 1, 2, 3, 4, 8, 9, 12, 15}) {
            for (int more : new int[] {127, -128, 40}) {
                IntraMill mill = spot(pixel % 4, pixel / 4, more, qp);
                for (int i : coefficients) {
                    int value = more * SHARES[Wave.across(i)][pixel % 4] * SHARES[Wave.down(i)][pixel / 4];
                    Check.same("QP " + qp + " pixel " + pixel + " " + more + " more: coefficient " + i,
                            mill.block(0, i), level(value, factor(i, qp), qp));
                }
            }
        }
    }

    private static void compareAll(int... coefficients) {
        for (int qp = 0; qp <= 51; qp++) {
            compare(qp, coefficients);
        }
    }

    @Says("FORTH (for a block's pixels less what is foretold):")
    static void lessWhatIsForetold() {
        Check.same("128", packed(128).block(0, 0), 0);
        Check.same("127: 16 13107 and 10922, by 32768", packed(127).block(0, 0), -6);
        Check.same("129", packed(129).block(0, 0), 6);
        Check.same("0", packed(0).block(0, 0), -819);
        Check.same("255: 2032 13107 and 10922", packed(255).block(0, 0), 813);
    }

    private static IntraMill packed(int grey) {
        IntraMill mill = Made.flat(1, 1, grey);
        mill.pack(0, false);
        return mill;
    }

    @Says("each row, then each column: of a, b, c, d, with p = a + d, q = b + c, r = b - c, s = a - d: "
            + "p + q, 2 s + r, p - q, s - 2 r.")
    static void eachPixelGoesIntoEachCoefficient() {
        for (int pixel = 0; pixel < 16; pixel++) {
            IntraMill mill = spot(pixel % 4, pixel / 4, 100, 0);
            for (int i = 0; i < 16; i++) {
                int value = 100 * SHARES[Wave.across(i)][pixel % 4] * SHARES[Wave.down(i)][pixel / 4];
                Check.same("pixel " + pixel + " coefficient " + i, mill.block(0, i), level(value, factor(i, 0), 0));
            }
        }
    }

    /** Light on the left and dark on the right make 3060 of c(1, 0) and -1020 of c(3, 0). */
    @Says("each row, then each column: of a, b, c, d, with p = a + d, q = b + c, r = b - c, s = a - d: "
            + "p + q, 2 s + r, p - q, s - 2 r.")
    static void theGreatestSizes() {
        IntraMill mill = new IntraMill();
        for (int y = 0; y < 4; y++) {
            mill.put(0, y, 0xffff0000);
        }
        mill.pack(0, false);
        Check.same("c(1, 0): 3060 8066 and 10922, by 32768", mill.block(0, 1), 753);
        Check.same("c(3, 0): 1020 8066 and 10922, by 32768", mill.block(0, 6), -251);
        Check.same("c(0, 1)", mill.block(0, 2), 0);
        for (int y = 0; y < 4; y++) {
            mill.put(0, y, y < 2 ? 0xffff0000 : 0x0000ffff);
        }
        mill.pack(0, false);
        Check.same("c(1, 1): 4590 5243 and 10922, by 32768", mill.block(0, 4), 734);
    }

    /** A size of 1 at QP 0 is 13107 and 10922, below 32768; at QP 6 by 65536, and 21845. */
    @Says("Then the size times W, and F, by 2^(15 + QP / 6) (cut off),")
    static void justBelowAndAtTheNextLevel() {
        Check.same("QP 0, 1: 24029", spot(0, 0, 1, 0).block(0, 0), 0);
        Check.same("QP 0, 2: 37136", spot(0, 0, 2, 0).block(0, 0), 1);
        Check.same("QP 0, 4: 63350", spot(0, 0, 4, 0).block(0, 0), 1);
        Check.same("QP 0, 5: 76457", spot(0, 0, 5, 0).block(0, 0), 2);
        Check.same("QP 6, 3: 61166", spot(0, 0, 3, 6).block(0, 0), 0);
        Check.same("QP 6, 4: 74273", spot(0, 0, 4, 6).block(0, 0), 1);
    }

    @Says("Then the size times W, and F, by 2^(15 + QP / 6) (cut off),")
    static void thePowerGrowsAtEachSixthQp() {
        Check.same("QP 5: 100 7282 and 10922, by 32768", spot(0, 0, 100, 5).block(0, 0), 22);
        Check.same("QP 6: 100 13107 and 21845, by 65536", spot(0, 0, 100, 6).block(0, 0), 20);
        Check.same("QP 47: 2048 7282 and 1398101, by 2^22", flat(0, 47).block(0, 0), -3);
        Check.same("QP 48: 2048 13107 and 2796202, by 2^23", flat(0, 48).block(0, 0), -3);
        Check.same("QP 51: 2048 9362 and 2796202, by 2^23", flat(0, 51).block(0, 0), -2);
    }

    private static IntraMill flat(int grey, int qp) {
        IntraMill mill = Made.flat(1, 1, grey);
        mill.pack(qp, false);
        return mill;
    }

    @Says("with its sign:")
    static void belowZeroAsAbove() {
        for (int more = 1; more < 128; more++) {
            for (int i : new int[] {0, 1, 4, 15}) {
                Check.same(more + " less, coefficient " + i, spot(0, 0, -more, 7).block(0, i),
                        -spot(0, 0, more, 7).block(0, i));
            }
        }
        Check.same("-4 at QP 0: 63350", spot(0, 0, -4, 0).block(0, 0), -1);
    }

    /** Each size from a great one down, so that a factor that is 1 more or less is seen. */
    private static void compareSizes(int i, int greatest, int[] fours) {
        for (int qp = 0; qp < 6; qp++) {
            for (int less = 0; less < 256; less++) {
                IntraMill mill = new IntraMill();
                for (int y = 0; y < 4; y++) {
                    mill.put(0, y, y == 1 ? fours[y] - (less << 16) : fours[y]);
                }
                mill.pack(qp, false);
                Check.same("QP " + qp + " size " + (greatest - less), mill.block(0, i),
                        level(greatest - less, factor(i, qp), qp));
            }
        }
    }

    @Says("W both even 13107 11916 10082 9362 8192 7282,")
    static void bothEven() {
        compareAll(0, 3, 5, 11);
    }

    /** A black block beside a white one has the greatest sizes: each pixel is as far as can be from the foretold. */
    @Says("W both even 13107 11916 10082 9362 8192 7282,")
    static void bothEvenToTheLastOne() {
        for (int qp = 0; qp < 6; qp++) {
            for (int more = 0; more < 256; more++) {
                IntraMill mill = Made.flat(2, 1, 255, 0);
                mill.put(1, 0, more << 24);
                mill.pack(qp, false);
                int size = 16 * mill.pixel(3, 0) - more;
                Check.same("QP " + qp + " size " + size, mill.block(1, 0), level(-size, factor(0, qp), qp));
            }
        }
    }

    @Says("both odd 5243 4660 4194 3647 3355 2893,")
    static void bothOddToTheLastOne() {
        compareSizes(4, 18 * 255, new int[] {0xffff0000, 0xffff0000, 0x0000ffff, 0x0000ffff});
    }

    @Says("otherwise 8066 7490 6554 5825 5243 4559;")
    static void oneOfThemOddToTheLastOne() {
        compareSizes(1, 12 * 255, new int[] {0xffff0000, 0xffff0000, 0xffff0000, 0xffff0000});
    }

    @Says("both odd 5243 4660 4194 3647 3355 2893,")
    static void bothOdd() {
        compareAll(4, 10, 12, 15);
    }

    @Says("otherwise 8066 7490 6554 5825 5243 4559;")
    static void oneOfThemOdd() {
        compareAll(1, 2, 6, 7, 8, 9, 13, 14);
    }

    @Says("F a third of 2^(15 + QP / 6),")
    static void aThirdAndNotAHalf() {
        Check.same("QP 0, 4: 52428 and 10922, below 65536", spot(0, 0, 4, 0).block(0, 0), 1);
        Check.same("QP 12, 17: 222819 and 43690, above 262144", spot(0, 0, 17, 12).block(0, 0), 2);
        Check.same("QP 12, 16: 209712 and 43690, below 262144", spot(0, 0, 16, 12).block(0, 0), 1);
    }

    /**
     * At QP 7 F is 21845 and a third. A size of 3637, times 7490, with 21845 is 416 times 65536 less 1. The block
     * above comes back as it is; mode 0 is the best, and 4 times 2 (a - d) and b - c makes just that size.
     */
    @Says("F a third of 2^(15 + QP / 6), cut off.")
    static void theThirdIsCutOff() {
        IntraMill mill = Made.begun(1, 2).get();
        for (int y = 0; y < 4; y++) {
            mill.put(0, y, 0x07e203c6);
        }
        mill.put(0, 4, 0xfffe0201);
        mill.put(0, 5, 0xfbfb0301);
        mill.put(0, 6, 0xfcfb0203);
        mill.put(0, 7, 0xfef80005);
        mill.pack(7, false);
        Check.same("above", Sight.pixels(() -> mill).split("\n")[3], "7 226 3 198 ");
        Check.same("mode", mill.block(1, IntraMill.NONE), 0);
        Check.same("416 65536 is 3637 7490 and 21846", 416L * 65536, 3637L * 7490 + 21846);
        Check.same("c(1, 0)", mill.block(1, 1), 415);
    }
}
