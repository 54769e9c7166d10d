import java.util.Arrays;
import java.util.function.Supplier;

/** Objects that tests begin with, and ways to fill them. */
final class Made {
    private Made() {
    }

    /** An object with a picture of two by two blocks, bits, modes, coefficients and a fault's place of its own. */
    static IntraMill used() {
        IntraMill mill = new IntraMill();
        mill.feed(0x80000000);
        mill.unpack();
        mill.begin(2, 2);
        mill.put(0, 0, 0x10f02080);
        mill.put(1, 5, 0x7f03fe01);
        mill.pack(17, true);
        mill.put(1, 7, 0x01020304);
        return mill;
    }

    /** An object with these bytes alone, from the highest, and a picture of two blocks. */
    static IntraMill fed(int... fours) {
        IntraMill mill = new IntraMill();
        mill.begin(2, 1);
        for (int four : fours) {
            mill.feed(four);
        }
        return mill;
    }

    static Supplier<IntraMill> begun(int across, int down) {
        return () -> {
            IntraMill mill = new IntraMill();
            mill.begin(across, down);
            return mill;
        };
    }

    /** A picture whose blocks, row by row, are each of one grey. */
    static IntraMill flat(int across, int down, int... greys) {
        IntraMill mill = begun(across, down).get();
        for (int block = 0; block < across * down; block++) {
            fill(mill, block % across, block / across, greys[block]);
        }
        return mill;
    }

    /** All pixels 255: by as few calls as there are, a line's four at a time. */
    static IntraMill white(int across, int down) {
        int[] greys = new int[across * down];
        Arrays.fill(greys, 255);
        return flat(across, down, greys);
    }

    static void fill(IntraMill mill, int column, int row, int grey) {
        for (int y = 4 * row; y < 4 * row + 4; y++) {
            mill.put(column, y, 0x01010101 * grey);
        }
    }

    /** A picture's text where all pixels are one grey. */
    static String grey(int across, int down, int value) {
        return ((value + " ").repeat(4 * across) + "\n").repeat(4 * down);
    }

    /** The modes and coefficients' text of blocks that were not packed. */
    static String noBlocks(int blocks) {
        return ("-1 " + "0 ".repeat(16) + "\n").repeat(blocks);
    }
}
