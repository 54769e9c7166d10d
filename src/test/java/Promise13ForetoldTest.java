@Part(name = "Promise 13: foretold",
        from = "`int foretold(int block, int mode, int x, int y) throws IllegalArgumentException`:",
        to = "## Promise 14")
public final class Promise13ForetoldTest {
    public static void main(String[] args) {
        Check.run(Promise13ForetoldTest.class);
    }

    /** Two by two blocks; above the last stand 10 20 30 40, on the left of it 50 60 70 80. */
    private static IntraMill four() {
        IntraMill mill = Made.begun(2, 2).get();
        mill.put(1, 3, 0x0a141e28);
        for (int y = 0; y < 4; y++) {
            mill.put(0, 4 + y, 50 + 10 * y);
        }
        return mill;
    }

    @Says("What is foretold for a pixel (x, y) of a block")
    static void theFirstAndTheLastPixel() {
        Check.same("foretold(3, 0, 0, 0)", four().foretold(3, 0, 0, 0), 10);
        Check.same("foretold(3, 0, 3, 3)", four().foretold(3, 0, 3, 3), 40);
        Check.same("foretold(3, 1, 0, 0)", four().foretold(3, 1, 0, 0), 50);
        Check.same("foretold(3, 1, 3, 3)", four().foretold(3, 1, 3, 3), 80);
    }

    @Says("What is foretold for a pixel (x, y) of a block")
    static void theFirstAndTheLastMode() {
        Check.same("foretold(3, 0, 1, 2)", four().foretold(3, 0, 1, 2), 20);
        Check.same("foretold(3, 8, 0, 0)", four().foretold(3, 8, 0, 0), 55);
        Check.same("foretold(3, 8, 3, 3)", four().foretold(3, 8, 3, 3), 80);
    }

    @Says("What is foretold for a pixel (x, y) of a block")
    static void theFirstAndTheLastBlock() {
        Check.same("foretold(0, 2, 0, 0)", Made.begun(8, 8).get().foretold(0, 2, 0, 0), 128);
        Check.same("foretold(63, 2, 0, 0)", Made.begun(8, 8).get().foretold(63, 2, 0, 0), 0);
    }

    @Says("What is foretold for a pixel (x, y) of a block")
    static void nothingChanges() {
        Check.same("the object", Sight.of(() -> {
            IntraMill mill = Made.used();
            mill.foretold(3, 5, 1, 1);
            mill.foretold(0, 5, 1, 1);
            return mill;
        }), Sight.of(Made::used));
    }

    @Says("as the picture is now;")
    static void behindPut() {
        IntraMill mill = four();
        mill.put(1, 3, 0x01020304);
        Check.same("foretold(3, 0, 2, 2)", mill.foretold(3, 0, 2, 2), 3);
    }

    @Says("as the picture is now;")
    static void theBlocksOwnPixelsDoNotMatter() {
        IntraMill mill = four();
        Made.fill(mill, 1, 1, 200);
        Check.same("foretold(3, 4, 1, 1)", mill.foretold(3, 4, 1, 1), four().foretold(3, 4, 1, 1));
        Check.same("foretold(3, 2, 1, 1)", mill.foretold(3, 2, 1, 1), 45);
    }

    /** The last pixels at the edge came back as 128 and 116, and were smoothed to 124 and 120. */
    @Says("as the picture is now;")
    static void behindUnpackOfASmoothedPicture() {
        IntraMill mill = BitText.head(2, 1, 24, 1).plain(1).one(0, -5).unpacked().get();
        Check.same("foretold(1, 1, 0, 0)", mill.foretold(1, 1, 0, 0), 124);
    }

    @Says("as the picture is now;")
    static void behindPack() {
        IntraMill mill = Made.flat(2, 1, 128, 140);
        mill.pack(20, true);
        Check.same("foretold(1, 1, 0, 0)", mill.foretold(1, 1, 0, 0), 131);
    }

    @Says("as the picture is now;")
    static void behindBegin() {
        IntraMill mill = Made.white(2, 2);
        Check.same("foretold(3, 2, 0, 0)", mill.foretold(3, 2, 0, 0), 255);
        mill.begin(2, 2);
        Check.same("foretold(3, 2, 0, 0)", mill.foretold(3, 2, 0, 0), 0);
    }

    private static void none(int block, int... modes) {
        for (int mode : modes) {
            Check.same("foretold(" + block + ", " + mode + ")", four().foretold(block, mode, 3, 2), IntraMill.NONE);
        }
    }

    @Says("NONE if the mode needs what is not there.")
    static void inTheFirstBlock() {
        none(0, 0, 1, 3, 4, 5, 6, 7, 8);
    }

    @Says("NONE if the mode needs what is not there.")
    static void inTheFirstRow() {
        none(1, 0, 3, 4, 5, 6, 7);
    }

    @Says("NONE if the mode needs what is not there.")
    static void inTheFirstColumn() {
        none(2, 1, 4, 5, 6, 8);
    }

    @Says("NONE if the mode needs what is not there.")
    static void notWhereItIsThere() {
        String[] may = {"2", "128", "0237", "012345678"};
        for (int block = 0; block < 4; block++) {
            for (char mode : may[block].toCharArray()) {
                Check.same("foretold(" + block + ", " + mode + ")", four().foretold(block, mode - '0', 0, 0) >= 0);
            }
        }
    }

    @Says("IllegalArgumentException: no such block,")
    static void blockBelowZero() {
        Check.refused("foretold(-1, 2, 0, 0)", Made::used, mill -> mill.foretold(-1, 2, 0, 0));
    }

    @Says("IllegalArgumentException: no such block,")
    static void blockBehindTheLast() {
        Check.refused("foretold(4, 2, 0, 0)", Made::used, mill -> mill.foretold(4, 2, 0, 0));
        Check.refused("foretold(1, 2, 0, 0) of one", IntraMill::new, mill -> mill.foretold(1, 2, 0, 0));
        Check.refused("foretold(64, 2, 0, 0)", Made.begun(8, 8), mill -> mill.foretold(64, 2, 0, 0));
    }

    @Says("IllegalArgumentException: no such block,")
    static void theFarthestBlocks() {
        Check.refused("foretold(MIN, ..)", Made::used, mill -> mill.foretold(Integer.MIN_VALUE, 2, 0, 0));
        Check.refused("foretold(MAX, ..)", Made::used, mill -> mill.foretold(Integer.MAX_VALUE, 2, 0, 0));
    }

    @Says("mode,")
    static void modeBelowZero() {
        Check.refused("foretold(3, -1, 0, 0)", Made::used, mill -> mill.foretold(3, -1, 0, 0));
        Check.refused("foretold(3, MIN, 0, 0)", Made::used, mill -> mill.foretold(3, Integer.MIN_VALUE, 0, 0));
    }

    @Says("mode,")
    static void modeAbove8() {
        Check.refused("foretold(3, 9, 0, 0)", Made::used, mill -> mill.foretold(3, 9, 0, 0));
        Check.refused("foretold(0, 9, 0, 0)", Made::used, mill -> mill.foretold(0, 9, 0, 0));
        Check.refused("foretold(3, MAX, 0, 0)", Made::used, mill -> mill.foretold(3, Integer.MAX_VALUE, 0, 0));
    }

    @Says("pixel 0 .. 3.")
    static void pixelBelowZero() {
        Check.refused("foretold(3, 2, -1, 0)", Made::used, mill -> mill.foretold(3, 2, -1, 0));
        Check.refused("foretold(3, 2, 0, -1)", Made::used, mill -> mill.foretold(3, 2, 0, -1));
    }

    @Says("pixel 0 .. 3.")
    static void pixelAbove3() {
        Check.refused("foretold(3, 2, 4, 0)", Made::used, mill -> mill.foretold(3, 2, 4, 0));
        Check.refused("foretold(3, 2, 0, 4)", Made::used, mill -> mill.foretold(3, 2, 0, 4));
    }

    @Says("pixel 0 .. 3.")
    static void theFarthestPixels() {
        for (int far : new int[] {Integer.MIN_VALUE, Integer.MAX_VALUE}) {
            Check.refused("foretold(3, 2, " + far + ", 0)", Made::used, mill -> mill.foretold(3, 2, far, 0));
            Check.refused("foretold(3, 2, 0, " + far + ")", Made::used, mill -> mill.foretold(3, 2, 0, far));
        }
    }

    /** A wrong number is refused, though the mode would answer NONE. */
    @Says("pixel 0 .. 3.")
    static void evenWhereTheModeIsNotThere() {
        Check.refused("foretold(0, 0, 4, 0)", Made::used, mill -> mill.foretold(0, 0, 4, 0));
        Check.refused("foretold(0, 0, 0, -1)", Made::used, mill -> mill.foretold(0, 0, 0, -1));
    }
}
