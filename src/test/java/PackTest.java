/** Promise 5, by answers worked out by hand; ModelTest compares many more. */
public final class PackTest {
    public static void main(String[] args) {
        flatBlock();
        lowestModeOfEquals();
        levelsAndWhatComesBack();
        signs();
        likelyMode();
        smoothed();
        notSmoothed();
        smallEdges();
        oldBitsGo();
        greatest();
        refuses();
        Check.done();
    }

    private static void fill(IntraMill mill, int column, int row, int value) {
        for (int y = 4 * row; y < 4 * row + 4; y++) {
            mill.put(column, y, 0x01010101 * value);
        }
    }

    private static void flatBlock() {
        IntraMill mill = new IntraMill();
        fill(mill, 0, 0, 128);
        Check.same("pack(20, false)", mill.pack(20, false), 2);
        Check.same("bits", BitText.of(mill), BitText.head(1, 1, 20, 0).plain().filled());
        Check.same("bytes", Sight.bytes(mill), "194 172 ");
        Check.same("pixels", Sight.pixels(mill), "128 128 128 128 \n".repeat(4));
        Check.same("mode", mill.block(0, -1), 2);
    }

    private static void lowestModeOfEquals() {
        IntraMill mill = new IntraMill();
        mill.begin(2, 2);
        for (int block = 0; block < 4; block++) {
            fill(mill, block % 2, block / 2, 128);
        }
        mill.pack(30, false);
        Check.same("block 0 has no other", mill.block(0, -1), 2);
        Check.same("1, 2 and 8 are equal", mill.block(1, -1), 1);
        Check.same("0, 2, 3 and 7 are equal", mill.block(2, -1), 0);
        Check.same("all are equal", mill.block(3, -1), 0);
    }

    /** 12 more than foretold: 192 by the transform, times 10082, and 87381, by 2^18: 7; back 7 13 8: 728: 11. */
    private static void levelsAndWhatComesBack() {
        IntraMill mill = new IntraMill();
        mill.begin(2, 1);
        fill(mill, 0, 0, 128);
        fill(mill, 1, 0, 140);
        mill.pack(20, false);
        Check.same("coefficient 0", mill.block(1, 0), 7);
        Check.same("coefficient 1", mill.block(1, 1), 0);
        Check.same("pixels", Sight.pixels(mill), "128 128 128 128 139 139 139 139 \n".repeat(4));
        BitText due = BitText.head(2, 1, 20, 0).plain().raw("0001").u(1).u(0).s(7);
        Check.same("bits", BitText.of(mill), due.filled());
        Check.same("packed again, 11 more: 176: 7", mill.pack(20, false), due.filled().length() / 8);
        Check.same("coefficient 0 again", mill.block(1, 0), 7);
    }

    /** One pixel 100 below the others: the transform is -100 in every p + q, and by the signs of its place. */
    private static void signs() {
        IntraMill mill = new IntraMill();
        fill(mill, 0, 0, 128);
        mill.put(0, 0, 0x1c808080);
        mill.pack(24, false);
        int power = 1 << 19;
        Check.same("c(0, 0)", mill.block(0, 0), -((100 * 13107 + power / 3) / power));
        Check.same("c(1, 0)", mill.block(0, 1), -((200 * 8066 + power / 3) / power));
        Check.same("c(0, 1)", mill.block(0, 2), -((200 * 8066 + power / 3) / power));
        Check.same("c(1, 1)", mill.block(0, 4), -((400 * 5243 + power / 3) / power));
        Check.same("c(3, 0)", mill.block(0, 6), -((100 * 8066 + power / 3) / power));
        Check.same("c(3, 3)", mill.block(0, 15), -((100 * 5243 + power / 3) / power));
        mill.begin(1, 1);
        fill(mill, 0, 0, 128);
        mill.put(0, 0, 0x80e48080);
        mill.pack(24, false);
        Check.same("c(2, 0) of the second pixel 100 above", mill.block(0, 5), -((100 * 13107 + power / 3) / power));
        Check.same("c(1, 0) of it", mill.block(0, 1), (100 * 8066 + power / 3) / power);
        Check.same("c(3, 0) of it", mill.block(0, 6), -((200 * 8066 + power / 3) / power));
    }

    /** Where a block is missing above or on the left the likely mode is 2, though the other's mode is less. */
    private static void likelyMode() {
        IntraMill mill = new IntraMill();
        mill.begin(3, 1);
        for (int block = 0; block < 3; block++) {
            fill(mill, block, 0, 128);
        }
        mill.pack(0, false);
        BitText due = BitText.head(3, 1, 0, 0).plain().raw("0001").u(0).raw("0001").u(0);
        Check.same("a row, modes 2 1 1", BitText.of(mill), due.filled());
        mill.begin(2, 3);
        for (int block = 0; block < 6; block++) {
            fill(mill, block % 2, block / 2, 128);
        }
        mill.pack(0, false);
        due = BitText.head(2, 3, 0, 0).plain().raw("0001").u(0).raw("0000").u(0);
        due.raw("1").u(0).raw("0000").u(0).raw("1").u(0);
        Check.same("two columns, modes 2 1 0 0 0 0", BitText.of(mill), due.filled());
    }

    /** QP 20: d would be (44 - 11 + 4) / 8 = 4, brought to 3. */
    private static void smoothed() {
        IntraMill mill = new IntraMill();
        mill.begin(2, 1);
        fill(mill, 0, 0, 128);
        fill(mill, 1, 0, 140);
        mill.pack(20, true);
        Check.same("an upright edge", Sight.pixels(mill), "128 128 128 131 136 139 139 139 \n".repeat(4));
        Check.same("smoothed", mill.about(3), 1);
        mill.begin(1, 2);
        fill(mill, 0, 0, 128);
        fill(mill, 0, 1, 116);
        mill.pack(20, true);
        StringBuilder due = new StringBuilder();
        for (int value : new int[] {128, 128, 128, 125, 120, 117, 117, 117}) {
            due.append((value + " ").repeat(4)).append('\n');
        }
        Check.same("a level edge", Sight.pixels(mill), due.toString());
    }

    /** At QP 20 a pixel beside the edge that differs by 6 or more from the one at it keeps the edge as it is. */
    private static void notSmoothed() {
        IntraMill mill = new IntraMill();
        mill.begin(2, 1);
        for (int y = 0; y < 4; y++) {
            mill.put(0, y, 0x80808080);
            mill.put(1, y, 0x80a08080);
        }
        mill.pack(20, true);
        boolean steep = Math.abs(mill.pixel(5, 0) - mill.pixel(4, 0)) >= 6;
        Check.same("the pixels differ by 6 or more", steep ? 1 : 0, 1);
        String smoothed = Sight.pixels(mill);
        for (int y = 0; y < 4; y++) {
            mill.put(0, y, 0x80808080);
            mill.put(1, y, 0x80a08080);
        }
        mill.pack(20, false);
        Check.same("smoothed or not, the pixels", smoothed, Sight.pixels(mill));
    }

    /** p - q must be below QP QP / 24: 8 at QP 14, so that a step of 7 is smoothed and one of 8 is not. */
    private static void smallEdges() {
        for (int step = 6; step <= 9; step++) {
            IntraMill mill = new IntraMill();
            mill.begin(2, 1);
            fill(mill, 0, 0, 128);
            fill(mill, 1, 0, 128 + step);
            mill.pack(14, false);
            int came = mill.pixel(4, 0) - 128;
            fill(mill, 0, 0, 128);
            fill(mill, 1, 0, 128 + step);
            mill.pack(14, true);
            Check.same("smoothed, step " + came, mill.pixel(3, 0) == 128 ? 0 : 1, came < 8 ? 1 : 0);
        }
    }

    private static void oldBitsGo() {
        IntraMill mill = new IntraMill();
        for (int k = 0; k < 100; k++) {
            mill.feed(-1);
        }
        mill.unpack();
        int place = mill.place();
        fill(mill, 0, 0, 128);
        Check.same("pack", mill.pack(51, true), 2);
        Check.same("bytes", mill.about(4), 2);
        Check.same("bits(2)", mill.bits(2), IntraMill.NONE);
        Check.same("pack leaves place", mill.place(), place);
        Check.same("feed comes behind", mill.feed(0), 6);
    }

    /** Extremes at QP 0: no size comes near 2048, nor the bytes near 8000. */
    private static void greatest() {
        IntraMill mill = new IntraMill();
        mill.begin(8, 8);
        for (int y = 0; y < 32; y++) {
            for (int block = 0; block < 8; block++) {
                mill.put(block, y, (y & 1) == 0 ? 0xff00ff00 : 0x00ff00ff);
            }
        }
        int bytes = mill.pack(0, false);
        Check.same("bytes are few enough", bytes < 8000 ? 1 : 0, 1);
        String pixels = Sight.pixels(mill);
        Check.same("unpack", mill.unpack(), 0);
        Check.same("pixels", Sight.pixels(mill), pixels);
        Check.same("pixel(0, 0)", mill.pixel(0, 0), 255);
        Check.same("pixel(31, 0)", mill.pixel(31, 0), 0);
    }

    private static void refuses() {
        IntraMill mill = new IntraMill();
        mill.begin(2, 2);
        mill.put(1, 3, 0x12345678);
        Check.noArgument("pack(52)", mill, () -> mill.pack(52, true));
        mill.pack(33, true);
        mill.feed(5);
        for (int wrong : new int[] {Integer.MIN_VALUE, -1, 52, 53, Integer.MAX_VALUE}) {
            Check.noArgument("pack(" + wrong + ")", mill, () -> mill.pack(wrong, false));
        }
        Check.same("pack(51)", mill.pack(51, true) > 0 ? 1 : 0, 1);
        Check.same("pack(0)", mill.pack(0, true) > 0 ? 1 : 0, 1);
    }
}
