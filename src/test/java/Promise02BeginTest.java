@Part(name = "Promise 2: begin", from = "`void begin(int across, int down) throws IllegalArgumentException`:",
        to = "## Promise 3")
public final class Promise02BeginTest {
    public static void main(String[] args) {
        Check.run(Promise02BeginTest.class);
    }

    private static void endsAt(int across, int down) {
        IntraMill mill = Made.begun(across, down).get();
        String size = across + " by " + down + ": ";
        Check.same(size + "about(0)", mill.about(0), across);
        Check.same(size + "about(1)", mill.about(1), down);
        Check.same(size + "the last pixel", mill.pixel(4 * across - 1, 4 * down - 1), 0);
        Check.same(size + "on the right of it", mill.pixel(4 * across, 4 * down - 1), IntraMill.NONE);
        Check.same(size + "below it", mill.pixel(4 * across - 1, 4 * down), IntraMill.NONE);
    }

    @Says("A picture of so many blocks,")
    static void oneByOneIsTheLeast() {
        endsAt(1, 1);
    }

    @Says("A picture of so many blocks,")
    static void eightByEightIsTheMost() {
        endsAt(8, 8);
    }

    @Says("A picture of so many blocks,")
    static void acrossComesBeforeDown() {
        endsAt(8, 1);
        endsAt(1, 8);
    }

    @Says("A picture of so many blocks,")
    static void eachSizeBetween() {
        for (int across = 1; across <= 8; across++) {
            for (int down = 1; down <= 8; down++) {
                endsAt(across, down);
            }
        }
    }

    @Says("A picture of so many blocks,")
    static void theBitsAndThePlaceStay() {
        IntraMill before = Made.used();
        String bytes = Sight.bytes(Made::used);
        IntraMill mill = Made.used();
        mill.begin(3, 1);
        Check.same("bytes", Sight.bytes(() -> mill), bytes);
        Check.same("place()", mill.place(), before.place());
    }

    private static IntraMill begunBehindWhite(int across, int down) {
        IntraMill mill = Made.white(8, 8);
        mill.begin(across, down);
        return mill;
    }

    @Says("all pixels 0.")
    static void whatWasPutIsGone() {
        Check.same("pixels", Sight.pixels(() -> begunBehindWhite(8, 8)), Made.grey(8, 8, 0));
    }

    @Says("all pixels 0.")
    static void whatWasPutIsGoneFromASmallerPicture() {
        Check.same("pixels", Sight.pixels(() -> begunBehindWhite(3, 2)), Made.grey(3, 2, 0));
    }

    @Says("all pixels 0.")
    static void itDoesNotComeBackInALargerPicture() {
        Check.same("pixels", Sight.pixels(() -> {
            IntraMill mill = begunBehindWhite(1, 1);
            mill.begin(8, 8);
            return mill;
        }), Made.grey(8, 8, 0));
    }

    @Says("all pixels 0.")
    static void whatWasUnpackedIsGone() {
        IntraMill mill = BitText.head(2, 2, 30, 0).plain(4).unpacked().get();
        Check.same("unpacked", mill.pixel(7, 7), 128);
        mill.begin(2, 2);
        Check.same("pixels", Sight.pixels(() -> mill), Made.grey(2, 2, 0));
    }

    @Says("all pixels 0.")
    static void theSameSizeAgain() {
        IntraMill mill = Made.used();
        mill.begin(2, 2);
        Check.same("pixels", Sight.pixels(() -> mill), Made.grey(2, 2, 0));
    }

    @Says("IllegalArgumentException: one is not 1 .. 8.")
    static void acrossBelowOne() {
        Check.refused("begin(0, 1)", Made::used, mill -> mill.begin(0, 1));
        Check.refused("begin(-1, 1)", Made::used, mill -> mill.begin(-1, 1));
    }

    @Says("IllegalArgumentException: one is not 1 .. 8.")
    static void acrossAboveEight() {
        Check.refused("begin(9, 1)", Made::used, mill -> mill.begin(9, 1));
        Check.refused("begin(16, 8)", Made::used, mill -> mill.begin(16, 8));
    }

    @Says("IllegalArgumentException: one is not 1 .. 8.")
    static void downBelowOne() {
        Check.refused("begin(1, 0)", Made::used, mill -> mill.begin(1, 0));
        Check.refused("begin(8, -1)", Made::used, mill -> mill.begin(8, -1));
    }

    @Says("IllegalArgumentException: one is not 1 .. 8.")
    static void downAboveEight() {
        Check.refused("begin(1, 9)", Made::used, mill -> mill.begin(1, 9));
        Check.refused("begin(8, 10)", Made::used, mill -> mill.begin(8, 10));
    }

    @Says("IllegalArgumentException: one is not 1 .. 8.")
    static void bothWrong() {
        Check.refused("begin(0, 0)", Made::used, mill -> mill.begin(0, 0));
        Check.refused("begin(9, 9)", Made::used, mill -> mill.begin(9, 9));
        Check.refused("begin(-2, -2)", Made::used, mill -> mill.begin(-2, -2));
    }

    /** Their lowest bits are good numbers. */
    @Says("IllegalArgumentException: one is not 1 .. 8.")
    static void numbersThatWouldWrapRound() {
        Check.refused("begin(17, 1)", Made::used, mill -> mill.begin(17, 1));
        Check.refused("begin(1, 264)", Made::used, mill -> mill.begin(1, 264));
        Check.refused("begin(-248, 8)", Made::used, mill -> mill.begin(-248, 8));
        Check.refused("begin(2, 65537)", Made::used, mill -> mill.begin(2, 65537));
    }

    @Says("IllegalArgumentException: one is not 1 .. 8.")
    static void theFarthestNumbers() {
        Check.refused("begin(MIN, 1)", Made::used, mill -> mill.begin(Integer.MIN_VALUE, 1));
        Check.refused("begin(1, MAX)", Made::used, mill -> mill.begin(1, Integer.MAX_VALUE));
        Check.refused("begin(MAX, MIN)", Made::used, mill -> mill.begin(Integer.MAX_VALUE, Integer.MIN_VALUE));
    }
}
