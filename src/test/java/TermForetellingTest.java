import java.util.function.IntPredicate;

@Part(name = "Terms: FORETELLING", from = "QP is 0 .. 51.", to = "BACK: c times V")
public final class TermForetellingTest {
    /**
     * The neighbours that each pixel is foretold from, mode by mode: M the corner, A to H above, I to L on the left.
     * One letter is that pixel, two are two(), three are three().
     */
    private static final String[] TABLE = {
        "A B C D/A B C D/A B C D/A B C D",
        "I I I I/J J J J/K K K K/L L L L",
        "",
        "ABC BCD CDE DEF/BCD CDE DEF EFG/CDE DEF EFG FGH/DEF EFG FGH GHH",
        "IMA MAB ABC BCD/JIM IMA MAB ABC/KJI JIM IMA MAB/LKJ KJI JIM IMA",
        "MA AB BC CD/IMA MAB ABC BCD/JIM MA AB BC/KJI IMA MAB ABC",
        "MI IMA MAB ABC/IJ MIJ MI IMA/JK IJK IJ MIJ/KL JKL JK IJK",
        "AB BC CD DE/ABC BCD CDE DEF/BC CD DE EF/BCD CDE DEF EFG",
        "IJ IJK JK JKL/JK JKL KL KLL/KL KLL L L/L L L L"
    };
    private static final String LETTERS = "MABCDEFGHIJKL";
    private static final int[][] VALUES = {
        {7, 200, 13, 255, 90, 0, 251, 34, 119, 61, 180, 3, 222},
        {255, 0, 255, 0, 255, 255, 0, 0, 255, 0, 255, 255, 0},
        {100, 101, 103, 106, 110, 115, 121, 128, 136, 99, 97, 94, 90}
    };

    public static void main(String[] args) {
        Check.run(TermForetellingTest.class);
    }

    /** Three by two blocks: round block 4 (in column 1) or 5 (in column 2, where E to H are not there) stand these. */
    private static IntraMill round(int column, int[] values) {
        IntraMill mill = Made.begun(3, 2).get();
        mill.put(column - 1, 3, values[0]);
        mill.put(column, 3, four(values, 1));
        if (column < 2) {
            mill.put(column + 1, 3, four(values, 5));
        }
        for (int y = 0; y < 4; y++) {
            mill.put(column - 1, 4 + y, values[9 + y]);
            mill.put(column, 4 + y, 0x55555555);
        }
        return mill;
    }

    private static int four(int[] values, int first) {
        return values[first] << 24 | values[first + 1] << 16 | values[first + 2] << 8 | values[first + 3];
    }

    private static int due(String letters, int[] values, boolean lastColumn) {
        int[] from = new int[letters.length()];
        for (int k = 0; k < from.length; k++) {
            char letter = letters.charAt(k);
            char seen = lastColumn && letter >= 'E' && letter <= 'H' ? 'D' : letter;
            from[k] = values[LETTERS.indexOf(seen)];
        }
        switch (from.length) {
            case 1:
                return from[0];
            case 2:
                return (from[0] + from[1] + 1) >> 1;
            default:
                return (from[0] + 2 * from[1] + from[2] + 2) >> 2;
        }
    }

    /** Compares the pixels of a mode whose number, 4 y + x, is one of those asked for. */
    private static void compare(int mode, IntPredicate asked) {
        for (int column = 1; column <= 2; column++) {
            for (int[] values : VALUES) {
                compareBlock(mode, column, values, asked);
            }
        }
    }

    private static void compareBlock(int mode, int column, int[] values, IntPredicate asked) {
        IntraMill mill = round(column, values);
        for (int i = 0; i < 16; i++) {
            if (asked.test(i)) {
                String letters = TABLE[mode].split("/")[i / 4].split(" ")[i % 4];
                String call = "foretold(" + (3 + column) + ", " + mode + ", " + i % 4 + ", " + i / 4 + ")";
                Check.same(call, mill.foretold(3 + column, mode, i % 4, i / 4), due(letters, values, column == 2));
            }
        }
    }

    private static void compare(int mode) {
        compare(mode, i -> true);
    }

    @Says("FORETELLING, by the pixels that are there already, T(k) those above the block, k = 0 .. 3,")
    static void fromTheLastLineOfTheBlockAbove() {
        IntraMill mill = Made.begun(1, 2).get();
        for (int y = 0; y < 8; y++) {
            mill.put(0, y, 0x01020304 + 0x10101010 * y);
        }
        for (int x = 0; x < 4; x++) {
            Check.same("T(" + x + ")", mill.foretold(1, 0, x, 0), 0x31 + x);
        }
    }

    /** At the pixel (3, 3) mode 3 is three(T(6), T(7), T(8)), at (3, 0) mode 7 is two(T(3), T(4)). */
    @Says("and on to the right, 4 .. 7")
    static void fromTheBlockAboveToTheRight() {
        IntraMill mill = Made.begun(2, 2).get();
        mill.put(0, 3, 0x0a0a0a0a);
        mill.put(1, 3, 0x14202840);
        Check.same("mode 7 at (3, 0)", mill.foretold(2, 7, 3, 0), 15);
        Check.same("mode 3 at (3, 1)", mill.foretold(2, 3, 3, 1), (20 + 2 * 32 + 40 + 2) / 4);
        Check.same("mode 3 at (3, 3)", mill.foretold(2, 3, 3, 3), (40 + 3 * 64 + 2) / 4);
    }

    @Says("(where there is no block above to the right: T(3)),")
    static void theLastColumnHasNone() {
        for (int mode : new int[] {3, 7}) {
            for (int[] values : VALUES) {
                compareBlock(mode, 2, values, i -> true);
            }
        }
    }

    @Says("(where there is no block above to the right: T(3)),")
    static void onlyOneColumn() {
        IntraMill mill = Made.begun(1, 2).get();
        mill.put(0, 3, 0x00000040);
        Check.same("mode 3 at (3, 3)", mill.foretold(1, 3, 3, 3), 64);
        Check.same("mode 7 at (3, 0)", mill.foretold(1, 7, 3, 0), 64);
    }

    @Says("(where there is no block above to the right: T(3)),")
    static void pixelsOfAWiderPictureBeforeAreNotThere() {
        IntraMill mill = Made.white(8, 8);
        BitText.load(mill, BitText.head(2, 2, 9, 0).plain(4).filled());
        mill.unpack();
        mill.put(1, 3, 0x00000040);
        Check.same("mode 3 at (3, 3)", mill.foretold(3, 3, 3, 3), 64);
    }

    @Says("(where there is no block above to the right: T(3)),")
    static void theEighthColumnHasNone() {
        IntraMill mill = Made.begun(8, 2).get();
        mill.put(0, 4, 0xffffffff);
        mill.put(7, 3, 0x00000040);
        Check.same("mode 3 at (3, 3)", mill.foretold(15, 3, 3, 3), 64);
    }

    @Says("L(k) those left of it,")
    static void fromTheLastColumnOfTheBlockOnTheLeft() {
        IntraMill mill = Made.begun(2, 1).get();
        for (int y = 0; y < 4; y++) {
            mill.put(0, y, 0x50607080 + y);
        }
        for (int y = 0; y < 4; y++) {
            Check.same("L(" + y + ")", mill.foretold(1, 1, 0, y), 0x80 + y);
        }
    }

    @Says("M the one above left. P(0) is M, P(k) T(k - 1), P(-k) L(k - 1).")
    static void theCornerIsTheLastPixelAboveLeft() {
        IntraMill mill = Made.begun(2, 2).get();
        mill.put(0, 3, 0x01020364);
        Check.same("mode 4 at (0, 0)", mill.foretold(3, 4, 0, 0), 50);
        Check.same("mode 4 at (1, 0)", mill.foretold(3, 4, 1, 0), 25);
        Check.same("mode 4 at (0, 1)", mill.foretold(3, 4, 0, 1), 25);
        Check.same("mode 4 at (2, 0)", mill.foretold(3, 4, 2, 0), 0);
    }

    /** In mode 5 n is the same for y = 0 and 1, and for y = 2 and 3. */
    @Says("y/2, x/2 are cut off;")
    static void halvesOfOddPlaces() {
        compare(5, i -> i / 4 % 2 == 1);
        compare(6, i -> i % 4 % 2 == 1);
        compare(7, i -> i / 4 % 2 == 1);
        compare(8, i -> i % 4 % 2 == 1);
    }

    private static int modeSeven(int y, int a, int b, int c) {
        IntraMill mill = Made.begun(1, 2).get();
        mill.put(0, 3, a << 24 | b << 16 | c << 8);
        return mill.foretold(1, 7, 0, y);
    }

    @Says("two(a, b) is (a + b + 1) / 2,")
    static void twoOfAnEvenAndAnOddSum() {
        Check.same("two(0, 0)", modeSeven(0, 0, 0, 9), 0);
        Check.same("two(0, 1)", modeSeven(0, 0, 1, 9), 1);
        Check.same("two(1, 1)", modeSeven(0, 1, 1, 9), 1);
        Check.same("two(10, 13)", modeSeven(0, 10, 13, 9), 12);
        Check.same("two(255, 255)", modeSeven(0, 255, 255, 9), 255);
    }

    @Says("three(a, b, c) is (a + 2 b + c + 2) / 4,")
    static void threeOfTheLeastAndTheMost() {
        Check.same("three(0, 0, 0)", modeSeven(1, 0, 0, 0), 0);
        Check.same("three(255, 255, 255)", modeSeven(1, 255, 255, 255), 255);
        Check.same("three(0, 255, 0)", modeSeven(1, 0, 255, 0), 128);
        Check.same("three(255, 0, 255)", modeSeven(1, 255, 0, 255), 128);
    }

    @Says("both cut off.")
    static void theRestIsCutOff() {
        Check.same("three(1, 0, 0)", modeSeven(1, 1, 0, 0), 0);
        Check.same("three(0, 1, 0)", modeSeven(1, 0, 1, 0), 1);
        Check.same("three(0, 1, 1)", modeSeven(1, 0, 1, 1), 1);
        Check.same("three(1, 2, 0)", modeSeven(1, 1, 2, 0), 1);
        Check.same("three(1, 2, 1)", modeSeven(1, 1, 2, 1), 2);
        Check.same("two(254, 255)", modeSeven(0, 254, 255, 0), 255);
        Check.same("two(2, 2)", modeSeven(0, 2, 2, 0), 2);
    }

    @Says("MODES, for pixel (x, y) of the block: ```text 0 T(x).")
    static void modeZero() {
        compare(0);
    }

    @Says("1 L(y).")
    static void modeOne() {
        compare(1);
    }

    private static IntraMill sides(int above, int left) {
        IntraMill mill = Made.begun(2, 2).get();
        mill.put(1, 3, above);
        for (int y = 0; y < 4; y++) {
            mill.put(0, 4 + y, left >>> (24 - 8 * y) & 255);
        }
        return mill;
    }

    @Says("2 the mean of all T(0 .. 3) and L, (sum + 4) / 8;")
    static void theMeanOfBothSides() {
        Check.same("a sum of 0", sides(0, 0).foretold(3, 2, 0, 0), 0);
        Check.same("a sum of 3", sides(0x01000000, 0x00000002).foretold(3, 2, 1, 1), 0);
        Check.same("a sum of 4", sides(0x01000001, 0x00000002).foretold(3, 2, 2, 2), 1);
        Check.same("a sum of 11", sides(0x03020001, 0x01010201).foretold(3, 2, 3, 3), 1);
        Check.same("a sum of 12", sides(0x03020001, 0x02010201).foretold(3, 2, 3, 3), 2);
        Check.same("a sum of 2040", sides(-1, -1).foretold(3, 2, 0, 3), 255);
    }

    @Says("of those of one side (sum + 2) / 4 where only that is there;")
    static void theMeanOfTheOneAbove() {
        for (int sum = 0; sum < 8; sum++) {
            IntraMill mill = Made.begun(1, 2).get();
            mill.put(0, 3, sum < 4 ? sum : 0x01010100 + sum - 3);
            Check.same("a sum of " + sum, mill.foretold(1, 2, 1, 2), (sum + 2) / 4);
        }
    }

    @Says("of those of one side (sum + 2) / 4 where only that is there;")
    static void theMeanOfTheOneOnTheLeft() {
        for (int sum = 0; sum < 8; sum++) {
            IntraMill mill = Made.begun(2, 1).get();
            mill.put(0, 3, sum);
            Check.same("a sum of " + sum, mill.foretold(1, 2, 1, 2), (sum + 2) / 4);
        }
    }

    @Says("128 where none is.")
    static void theMeanOfNone() {
        Check.same("foretold(0, 2, 0, 0)", Made.white(2, 2).foretold(0, 2, 0, 0), 128);
        Check.same("foretold(0, 2, 3, 3)", new IntraMill().foretold(0, 2, 3, 3), 128);
    }

    @Says("3 three(T(x + y), T(x + y + 1), T(x + y + 2)),")
    static void modeThree() {
        compare(3, i -> i < 15);
    }

    @Says("T(8) being T(7).")
    static void modeThreeAtItsLastPixel() {
        compare(3, i -> i == 15);
    }

    @Says("4 three(P(x - y - 1), P(x - y), P(x - y + 1)).")
    static void modeFour() {
        compare(4);
    }

    private static int z(int i) {
        return 2 * (i % 4) - i / 4;
    }

    private static int zChangedOver(int i) {
        return 2 * (i / 4) - i % 4;
    }

    @Says("5 let z be 2 x - y, n be x - y/2: two(P(n), P(n + 1)) for z even, not below 0;")
    static void modeFiveEven() {
        compare(5, i -> z(i) >= 0 && z(i) % 2 == 0);
    }

    @Says("three(P(n - 1), P(n), P(n + 1)) for z odd, above 0;")
    static void modeFiveOdd() {
        compare(5, i -> z(i) > 0 && z(i) % 2 == 1);
    }

    @Says("three(P(-1), P(0), P(1)) for -1;")
    static void modeFiveAtMinusOne() {
        compare(5, i -> z(i) == -1);
    }

    @Says("three(P(-y), P(1 - y), P(2 - y)) below.")
    static void modeFiveBelow() {
        compare(5, i -> z(i) < -1);
    }

    @Says("6 likewise, with x and y changed over, and P(-k) for P(k).")
    static void modeSixEven() {
        compare(6, i -> zChangedOver(i) >= 0 && zChangedOver(i) % 2 == 0);
    }

    @Says("6 likewise, with x and y changed over, and P(-k) for P(k).")
    static void modeSixOdd() {
        compare(6, i -> zChangedOver(i) > 0 && zChangedOver(i) % 2 == 1);
    }

    @Says("6 likewise, with x and y changed over, and P(-k) for P(k).")
    static void modeSixAtMinusOneAndBelow() {
        compare(6, i -> zChangedOver(i) < 0);
    }

    @Says("7 n being x + y/2: two(T(n), T(n + 1)) for y even,")
    static void modeSevenEven() {
        compare(7, i -> i / 4 % 2 == 0);
    }

    @Says("three(T(n), T(n + 1), T(n + 2)) for y odd.")
    static void modeSevenOdd() {
        compare(7, i -> i / 4 % 2 == 1);
    }

    @Says("8 n being y + x/2: two(L(n), L(n + 1)) for x even,")
    static void modeEightEven() {
        compare(8, i -> i % 2 == 0 && i < 12);
    }

    @Says("three(L(n), L(n + 1), L(n + 2)) for x odd,")
    static void modeEightOdd() {
        compare(8, i -> i % 2 == 1 && i < 12);
    }

    @Says("all L(k) behind the last being that.")
    static void modeEightBehindTheLast() {
        compare(8, i -> i / 4 + i % 4 / 2 >= 2);
    }

    /** The line below the left block is another block's, and not looked at. */
    @Says("all L(k) behind the last being that.")
    static void modeEightDoesNotSeeTheBlockBelow() {
        IntraMill mill = Made.begun(2, 2).get();
        mill.put(0, 3, 0x00000040);
        mill.put(0, 4, -1);
        mill.put(0, 5, -1);
        Check.same("at (3, 1)", mill.foretold(1, 8, 3, 1), 48);
        Check.same("at (0, 3)", mill.foretold(1, 8, 0, 3), 64);
        Check.same("at (3, 3)", mill.foretold(1, 8, 3, 3), 64);
    }

    private static void there(int mode, String first, boolean above, boolean left, boolean both) {
        IntraMill mill = Made.begun(2, 2).get();
        Check.same(first + " in the first block", mill.foretold(0, mode, 0, 0) >= 0, false);
        Check.same(first + " with one on the left", mill.foretold(1, mode, 0, 0) >= 0, left);
        Check.same(first + " with one above", mill.foretold(2, mode, 0, 0) >= 0, above);
        Check.same(first + " with both", mill.foretold(3, mode, 0, 0) >= 0, both);
    }

    @Says("0, 3 and 7 need a block above,")
    static void thoseThatNeedABlockAbove() {
        for (int mode : new int[] {0, 3, 7}) {
            there(mode, "mode " + mode, true, false, true);
        }
    }

    @Says("1 and 8 one on the left,")
    static void thoseThatNeedABlockOnTheLeft() {
        for (int mode : new int[] {1, 8}) {
            there(mode, "mode " + mode, false, true, true);
        }
    }

    @Says("4, 5 and 6 both.")
    static void thoseThatNeedBoth() {
        for (int mode : new int[] {4, 5, 6}) {
            there(mode, "mode " + mode, false, false, true);
        }
    }
}
