import java.util.Arrays;

@Part(name = "Terms: BACK", from = "4, 5 and 6 both. ```", to = "FORTH (for")
public final class TermBackTest {
    private static final int[] BOTH_EVEN = {10, 11, 13, 14, 16, 18};
    private static final int[] BOTH_ODD = {16, 18, 20, 23, 25, 29};
    private static final int[] OTHERWISE = {13, 14, 16, 18, 20, 23};

    public static void main(String[] args) {
        Check.run(TermBackTest.class);
    }

    private static String pixels(int qp, int... levels) {
        return Sight.pixels(BitText.head(1, 1, qp, 0).raw("1").levels(levels).unpacked());
    }

    private static String rows(int... row) {
        StringBuilder text = new StringBuilder();
        for (int value : row) {
            text.append(value).append(' ');
        }
        return (text + "\n").repeat(4);
    }

    private static String columns(int... column) {
        StringBuilder text = new StringBuilder();
        for (int value : column) {
            text.append((value + " ").repeat(4)).append('\n');
        }
        return text.toString();
    }

    /** Each of these coefficients alone, as great as stays within 0 .. 255, above and below, at each QP. */
    private static void compare(int[] factors, int... coefficients) {
        for (int qp = 0; qp <= 51; qp++) {
            for (int i : coefficients) {
                int value = factors[qp % 6] << qp / 6;
                int level = 7000 / value;
                Check.same("QP " + qp + " coefficient " + i, Sight.pixels(BitText.head(1, 1, qp, 0).one(i, level)
                        .unpacked()), Wave.pixels(i, level * value));
                Check.same("QP " + qp + " coefficient " + i, Sight.pixels(BitText.head(1, 1, qp, 0).one(i, -level)
                        .unpacked()), Wave.pixels(i, -level * value));
            }
        }
    }

    /** At QP 5, 6, 11, 12, 47, 48 and 51 one level of coefficient 0 is V, times 1, 2, 2, 4, 128, 256, 256. */
    @Says("BACK: c times V, times 2^(QP / 6):")
    static void thePowerGrowsAtEachSixthQp() {
        Check.same("QP 5, 36 18 = 648", pixels(5, 36), rows(138, 138, 138, 138));
        Check.same("QP 6, 36 10 2 = 720", pixels(6, 36), rows(139, 139, 139, 139));
        Check.same("QP 11, 36 18 2 = 1296", pixels(11, 36), rows(148, 148, 148, 148));
        Check.same("QP 12, 36 10 4 = 1440", pixels(12, 36), rows(151, 151, 151, 151));
        Check.same("QP 47, 18 128 = 2304", pixels(47, 1), rows(164, 164, 164, 164));
        Check.same("QP 48, 10 256 = 2560", pixels(48, 1), rows(168, 168, 168, 168));
        Check.same("QP 51, 14 256 = 3584", pixels(51, 1), rows(184, 184, 184, 184));
    }

    @Says("V by QP modulo 6 and by u, v: both even 10 11 13 14 16 18,")
    static void bothEven() {
        compare(BOTH_EVEN, 0, 3, 5, 11);
    }

    @Says("both odd 16 18 20 23 25 29,")
    static void bothOdd() {
        compare(BOTH_ODD, 4, 10, 12, 15);
    }

    @Says("otherwise 13 14 16 18 20 23.")
    static void oneOfThemOdd() {
        compare(OTHERWISE, 1, 2, 6, 7, 8, 9, 13, 14);
    }

    /** c(0, 0) is 50 and c(2, 1) 91: columns first would make the second and third pixel of line 2 129. */
    @Says("Then each row, and then each column:")
    static void rowsComeFirst() {
        Check.same("pixels", pixels(0, 5, 0, 0, 0, 0, 0, 0, 7),
                "130 127 127 130 \n129 128 128 129 \n128 130 130 128 \n127 130 130 127 \n");
    }

    @Says("of a, b, c, d the sums p = a + c, q = a - c, r = b/2 - d, s = b + d/2")
    static void eachOfTheFourAlone() {
        Check.same("a = 640", pixels(0, 64), rows(138, 138, 138, 138));
        Check.same("b = 640", pixels(4, 0, 32), rows(138, 133, 123, 118));
        Check.same("c = 640", pixels(0, 0, 0, 0, 0, 0, 64), rows(138, 118, 118, 138));
        Check.same("d = 640", pixels(4, 0, 0, 0, 0, 0, 0, 32), rows(133, 118, 138, 123));
    }

    /** 230 and -13: half of -13 is -7, and 223 and 32 are just below 256. */
    @Says("(halves rounded down)")
    static void halvesBelowZero() {
        Check.same("b across", pixels(0, 23, -1), rows(131, 131, 132, 132));
        Check.same("d across", pixels(0, 23, 0, 0, 0, 0, 0, -1), rows(131, 132, 131, 132));
        Check.same("b down", pixels(0, 23, 0, -1), columns(131, 131, 132, 132));
        Check.same("d down", pixels(0, 23, 0, 0, 0, 0, 0, 0, 0, 0, -1), columns(131, 132, 131, 132));
    }

    /** 230 and 13: half of 13 is 6, and 224 and 32 are just 256. */
    @Says("(halves rounded down)")
    static void halvesAboveZero() {
        Check.same("b across", pixels(0, 23, 1), rows(132, 132, 132, 131));
        Check.same("d across", pixels(0, 23, 0, 0, 0, 0, 0, 1), rows(132, 131, 132, 132));
        Check.same("b down", pixels(0, 23, 0, 1), columns(132, 132, 132, 131));
        Check.same("d down", pixels(0, 23, 0, 0, 0, 0, 0, 0, 0, 0, 1), columns(132, 131, 132, 132));
    }

    @Says("become p + s, q + r, q - r, p - s.")
    static void allFourTogether() {
        Check.same("a 640, b 320, c 160, d 80 by 2: p 800 q 480 r 80 s 360", pixels(4, 40, 16, 0, 0, 0, 10, 4),
                rows(146, 137, 134, 135));
    }

    @Says("Each of the results, and 32, by 64 (rounded down), is added to what was foretold;")
    static void halfOf64IsOne() {
        Check.same("30 and 32 is 62", pixels(0, 3), rows(128, 128, 128, 128));
        Check.same("40 and 32 is 72", pixels(0, 4), rows(129, 129, 129, 129));
        Check.same("32 and 32 is 64", pixels(4, 2), rows(129, 129, 129, 129));
        Check.same("90 and 32 is 122", pixels(0, 9), rows(129, 129, 129, 129));
        Check.same("96 and 32 is 128", pixels(4, 6), rows(130, 130, 130, 130));
    }

    @Says("Each of the results, and 32, by 64 (rounded down), is added to what was foretold;")
    static void belowZeroItIsRoundedDown() {
        Check.same("-30 and 32 is 2", pixels(0, -3), rows(128, 128, 128, 128));
        Check.same("-32 and 32 is 0", pixels(4, -2), rows(128, 128, 128, 128));
        Check.same("-40 and 32 is -8", pixels(0, -4), rows(127, 127, 127, 127));
        Check.same("-96 and 32 is -64", pixels(4, -6), rows(127, 127, 127, 127));
        Check.same("-100 and 32 is -68", pixels(0, -10), rows(126, 126, 126, 126));
    }

    @Says("Each of the results, and 32, by 64 (rounded down), is added to what was foretold;")
    static void addedToWhatTheNeighboursForetell() {
        Check.same("pixels", Sight.pixels(BitText.head(2, 1, 24, 0).one(0, 10).one(0, 4).unpacked()),
                "153 153 153 153 163 163 163 163 \n".repeat(4));
    }

    @Says("below 0 it is 0,")
    static void oneZeroAndBelow() {
        Check.same("127 less", pixels(12, -204), rows(1, 1, 1, 1));
        Check.same("128 less", pixels(12, -205), rows(0, 0, 0, 0));
        Check.same("129 less", pixels(12, -206), rows(0, 0, 0, 0));
        Check.same("far less", pixels(51, -2048), rows(0, 0, 0, 0));
    }

    @Says("above 255 it is 255.")
    static void justBelow255AndAbove() {
        Check.same("126 more", pixels(12, 202), rows(254, 254, 254, 254));
        Check.same("127 more", pixels(12, 203), rows(255, 255, 255, 255));
        Check.same("128 more", pixels(12, 205), rows(255, 255, 255, 255));
        Check.same("far more", pixels(51, 2048), rows(255, 255, 255, 255));
    }

    @Says("above 255 it is 255.")
    static void theGreatestOfAllDoNotWrapRound() {
        int[] levels = new int[16];
        Arrays.fill(levels, 2048);
        Check.same("all 2048", pixels(51, levels).substring(0, 4), "255 ");
        Check.same("all 2048", pixels(47, levels).substring(0, 4), "255 ");
        Arrays.fill(levels, -2048);
        Check.same("all -2048", pixels(51, levels).substring(0, 2), "0 ");
        Check.same("all -2048", pixels(47, levels).substring(0, 2), "0 ");
    }
}
