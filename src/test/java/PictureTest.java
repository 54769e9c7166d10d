/** Promises 1 to 4: a new object, begin, put, pixel. */
public final class PictureTest {
    private static final int[] EDGES = {Integer.MIN_VALUE, -5, -1, 0, 1, 7, 8, 9, 31, 32, 1 << 30, Integer.MAX_VALUE};

    public static void main(String[] args) {
        newObject();
        beginMakesAPictureOfZeros();
        beginForgetsWhatWasPackedButNotTheBits();
        beginRefuses();
        putSetsFourPixels();
        putRefuses();
        pixelAnswersNone();
        Check.done();
    }

    private static void newObject() {
        IntraMill mill = new IntraMill();
        String block = "-1 0 0 0 0 0 0 0 0 0 0 0 0 0 0 0 0 \n";
        Check.same("a new object", Sight.of(mill), "1 1 0 0 0 place -1\n" + "0 0 0 0 \n".repeat(4) + block);
        mill.pack(10, true);
        Check.same("another new object", new IntraMill().about(4), 0);
    }

    private static void beginMakesAPictureOfZeros() {
        IntraMill mill = new IntraMill();
        mill.begin(8, 8);
        for (int y = 0; y < 32; y++) {
            for (int block = 0; block < 8; block++) {
                mill.put(block, y, -1);
            }
        }
        for (int across = 8; across >= 1; across--) {
            for (int down = 1; down <= 8; down++) {
                mill.begin(across, down);
                Check.same("pixels", Sight.pixels(mill), ("0 ".repeat(4 * across) + "\n").repeat(4 * down));
                mill.put(across - 1, 4 * down - 1, -1);
            }
        }
    }

    private static void beginForgetsWhatWasPackedButNotTheBits() {
        IntraMill mill = packed();
        mill.end(mill.about(4) - 1);
        Check.same("bits that end too soon", mill.unpack(), -1);
        String bytes = Sight.bytes(mill);
        int place = mill.place();
        mill.begin(3, 1);
        Check.same("QP behind begin", mill.about(2), 0);
        Check.same("smoothed behind begin", mill.about(3), 0);
        Check.same("across behind begin", mill.about(0), 3);
        Check.same("down behind begin", mill.about(1), 1);
        Check.same("blocks", Sight.blocks(mill), ("-1 " + "0 ".repeat(16) + "\n").repeat(3));
        Check.same("bytes behind begin", Sight.bytes(mill), bytes);
        Check.same("place behind begin", mill.place(), place);
    }

    /** An object with a picture, bits, modes and coefficients of its own. */
    private static IntraMill packed() {
        IntraMill mill = new IntraMill();
        mill.begin(2, 2);
        mill.put(0, 0, 0x10f02080);
        mill.put(1, 5, 0x7f03fe01);
        mill.pack(17, true);
        mill.put(1, 7, 0x01020304);
        return mill;
    }

    private static void beginRefuses() {
        for (int wrong : new int[] {Integer.MIN_VALUE, -8, -1, 0, 9, 10, 16, Integer.MAX_VALUE}) {
            IntraMill mill = packed();
            Check.noArgument("begin(" + wrong + ", 1)", mill, () -> mill.begin(wrong, 1));
            Check.noArgument("begin(8, " + wrong + ")", mill, () -> mill.begin(8, wrong));
            Check.noArgument("begin twice " + wrong, mill, () -> mill.begin(wrong, wrong));
        }
    }

    private static void putSetsFourPixels() {
        IntraMill mill = new IntraMill();
        mill.begin(2, 1);
        mill.put(1, 2, 0x01ff8000);
        mill.put(0, 0, 0xfe000003);
        Check.same("pixels", Sight.pixels(mill),
                "254 0 0 3 0 0 0 0 \n0 0 0 0 0 0 0 0 \n0 0 0 0 1 255 128 0 \n0 0 0 0 0 0 0 0 \n");
        mill.put(1, 2, 0x05060708);
        Check.same("put again", mill.pixel(5, 2), 6);
        String before = Sight.blocks(mill) + mill.about(4);
        mill.pack(30, false);
        String then = Sight.blocks(mill) + Sight.bytes(mill);
        mill.put(0, 1, 0x11223344);
        Check.same("put leaves blocks and bits", Sight.blocks(mill) + Sight.bytes(mill), then);
        Check.same("packed", before.equals(then) ? 1 : 0, 0);
    }

    private static void putRefuses() {
        for (int block : EDGES) {
            for (int y : EDGES) {
                IntraMill mill = packed();
                if (block < 0 || block > 1 || y < 0 || y > 7) {
                    Check.noArgument("put(" + block + ", " + y + ")", mill, () -> mill.put(block, y, -1));
                } else {
                    mill.put(block, y, -1);
                    Check.same("put(" + block + ", " + y + ")", mill.pixel(4 * block + 3, y), 255);
                }
            }
        }
    }

    private static void pixelAnswersNone() {
        IntraMill mill = new IntraMill();
        mill.begin(8, 2);
        for (int x : EDGES) {
            for (int y : EDGES) {
                boolean there = x >= 0 && x < 32 && y >= 0 && y < 8;
                Check.same("pixel(" + x + ", " + y + ")", mill.pixel(x, y), there ? 0 : IntraMill.NONE);
            }
        }
    }
}
