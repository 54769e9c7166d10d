/**
 * Promise 13. The table names, for each pixel, the neighbours it is foretold from: M the corner, A to H above, I to L
 * on the left; one letter is that pixel, two are two(), three are three().
 */
public final class ForetoldTest {
    private static final String[] TABLE = {
        "A B C D/A B C D/A B C D/A B C D",
        "I I I I/J J J J/K K K K/L L L L",
        null,
        "ABC BCD CDE DEF/BCD CDE DEF EFG/CDE DEF EFG FGH/DEF EFG FGH GHH",
        "IMA MAB ABC BCD/JIM IMA MAB ABC/KJI JIM IMA MAB/LKJ KJI JIM IMA",
        "MA AB BC CD/IMA MAB ABC BCD/JIM MA AB BC/KJI IMA MAB ABC",
        "MI IMA MAB ABC/IJ MIJ MI IMA/JK IJK IJ MIJ/KL JKL JK IJK",
        "AB BC CD DE/ABC BCD CDE DEF/BC CD DE EF/BCD CDE DEF EFG",
        "IJ IJK JK JKL/JK JKL KL KLL/KL KLL L L/L L L L"
    };
    /** The picture of three by two blocks is put so that block 4, or 5, has these round it. */
    private static final String LETTERS = "MABCDEFGHIJKL";
    private static final int[] VALUES = {7, 200, 13, 255, 90, 0, 251, 34, 119, 61, 180, 3, 222};

    public static void main(String[] args) {
        inTheMiddle();
        atTheRightEdge();
        whereNotAllIsThere();
        means();
        asThePictureIsNow();
        refuses();
        Check.done();
    }

    private static int value(char letter, boolean rightEdge) {
        char seen = rightEdge && letter >= 'E' && letter <= 'H' ? 'D' : letter;
        return VALUES[LETTERS.indexOf(seen)];
    }

    private static int due(int mode, int x, int y, boolean rightEdge) {
        if (mode == 2) {
            return (200 + 13 + 255 + 90 + 61 + 180 + 3 + 222 + 4) / 8;
        }
        String from = TABLE[mode].split("/")[y].split(" ")[x];
        int a = value(from.charAt(0), rightEdge);
        if (from.length() == 1) {
            return a;
        }
        int b = value(from.charAt(1), rightEdge);
        return from.length() == 2 ? (a + b + 1) >> 1 : (a + 2 * b + value(from.charAt(2), rightEdge) + 2) >> 2;
    }

    private static IntraMill round(int column) {
        IntraMill mill = new IntraMill();
        mill.begin(3, 2);
        mill.put(column - 1, 3, VALUES[0]);
        mill.put(column, 3, four(1));
        if (column < 2) {
            mill.put(column + 1, 3, four(5));
        }
        for (int y = 0; y < 4; y++) {
            mill.put(column - 1, 4 + y, VALUES[9 + y]);
            mill.put(column, 4 + y, 0x55555555);
        }
        return mill;
    }

    private static int four(int first) {
        return VALUES[first] << 24 | VALUES[first + 1] << 16 | VALUES[first + 2] << 8 | VALUES[first + 3];
    }

    private static void compareAll(IntraMill mill, int block, boolean rightEdge) {
        for (int mode = 0; mode < 9; mode++) {
            for (int i = 0; i < 16; i++) {
                String call = "foretold(" + block + ", " + mode + ", " + i % 4 + ", " + i / 4 + ")";
                Check.same(call, mill.foretold(block, mode, i % 4, i / 4), due(mode, i % 4, i / 4, rightEdge));
            }
        }
    }

    private static void inTheMiddle() {
        compareAll(round(1), 4, false);
    }

    private static void atTheRightEdge() {
        compareAll(round(2), 5, true);
    }

    private static void whereNotAllIsThere() {
        IntraMill mill = new IntraMill();
        mill.begin(2, 2);
        String[] may = {"2", "128", "0237", "012345678"};
        for (int block = 0; block < 4; block++) {
            for (int mode = 0; mode < 9; mode++) {
                boolean there = may[block].indexOf('0' + mode) >= 0;
                boolean none = mill.foretold(block, mode, 3, 2) == IntraMill.NONE;
                Check.same("mode " + mode + " of block " + block + " is there", none ? 0 : 1, there ? 1 : 0);
            }
        }
    }

    private static void means() {
        IntraMill mill = new IntraMill();
        mill.begin(2, 2);
        for (int y = 0; y < 4; y++) {
            mill.put(0, y, 0x0a0a0a0a + y);
        }
        Check.same("mean of none", mill.foretold(0, 2, 1, 1), 128);
        Check.same("mean of the left, 10 11 12 13", mill.foretold(1, 2, 1, 1), (46 + 2) / 4);
        Check.same("mean of above, 10 10 10 13", mill.foretold(2, 2, 1, 1), (43 + 2) / 4);
        mill.put(0, 3, 0xff00ff01);
        Check.same("mean of above, 255 0 255 1", mill.foretold(2, 2, 3, 3), 128);
    }

    private static void asThePictureIsNow() {
        IntraMill mill = round(1);
        mill.pack(51, true);
        Check.same("of what came back", mill.foretold(4, 0, 2, 2), mill.pixel(6, 3));
        mill.put(1, 3, 0x01020304);
        Check.same("of what was put then", mill.foretold(4, 0, 2, 2), 3);
        String before = Sight.of(mill);
        mill.foretold(4, 5, 1, 1);
        Check.same("nothing changes", Sight.of(mill), before);
    }

    private static void refuses() {
        IntraMill mill = round(1);
        mill.pack(12, false);
        for (int wrong : new int[] {Integer.MIN_VALUE, -1, 9, 1 << 30, Integer.MAX_VALUE}) {
            Check.noArgument("foretold block " + wrong, mill, () -> mill.foretold(wrong, 2, 0, 0));
            Check.noArgument("foretold mode " + wrong, mill, () -> mill.foretold(0, wrong, 0, 0));
            Check.noArgument("foretold x " + wrong, mill, () -> mill.foretold(0, 2, wrong, 0));
            Check.noArgument("foretold y " + wrong, mill, () -> mill.foretold(0, 2, 0, wrong));
        }
        Check.noArgument("foretold block 6 of 6", mill, () -> mill.foretold(6, 2, 0, 0));
        Check.noArgument("foretold x 4", mill, () -> mill.foretold(5, 2, 4, 0));
        Check.noArgument("foretold y 4", mill, () -> mill.foretold(5, 2, 0, 4));
        Check.noArgument("a mode that is not there, and a wrong x", mill, () -> mill.foretold(0, 0, 4, 0));
    }
}
