@Part(name = "Promise 3: put", from = "`void put(int block, int y, int four) throws IllegalArgumentException`:",
        to = "## Promise 4")
public final class Promise03PutTest {
    public static void main(String[] args) {
        Check.run(Promise03PutTest.class);
    }

    private static IntraMill put(int across, int down, int block, int y, int four) {
        IntraMill mill = Made.begun(across, down).get();
        mill.put(block, y, four);
        return mill;
    }

    @Says("Four pixels,")
    static void fourAndNoMore() {
        Check.same("pixels", Sight.pixels(() -> put(3, 1, 1, 1, -1)), "0 0 0 0 0 0 0 0 0 0 0 0 \n"
                + "0 0 0 0 255 255 255 255 0 0 0 0 \n" + "0 0 0 0 0 0 0 0 0 0 0 0 \n".repeat(2));
    }

    @Says("Four pixels,")
    static void theLeastAndTheMostOfAPixel() {
        Check.same("pixels", Sight.pixels(() -> put(1, 1, 0, 0, 0x00ff7f80)).substring(0, 14), "0 255 127 128 ");
    }

    @Says("Four pixels,")
    static void theyTakeThePlaceOfThoseBefore() {
        IntraMill mill = Made.white(1, 1);
        mill.put(0, 1, 0);
        Check.same("pixels", Sight.pixels(() -> mill),
                "255 255 255 255 \n0 0 0 0 \n255 255 255 255 \n255 255 255 255 \n");
    }

    @Says("Four pixels,")
    static void nothingElseChanges() {
        IntraMill mill = Made.used();
        mill.put(0, 3, 0x55555555);
        Check.same("blocks", Sight.blocks(() -> mill), Sight.blocks(Made::used));
        Check.same("bytes", Sight.bytes(() -> mill), Sight.bytes(Made::used));
        Check.same("QP", mill.about(2), 17);
        Check.same("smoothed", mill.about(3), 1);
        Check.same("place()", mill.place(), 1);
    }

    @Says("the first in the highest byte,")
    static void fromTheHighestByteOn() {
        Check.same("pixels", Sight.pixels(() -> put(1, 1, 0, 0, 0x01020304)).substring(0, 8), "1 2 3 4 ");
    }

    @Says("the first in the highest byte,")
    static void theHighestByteHasNoSign() {
        Check.same("pixel(0, 0)", put(1, 1, 0, 0, 0x80000000).pixel(0, 0), 128);
        Check.same("pixel(0, 0)", put(1, 1, 0, 0, 0xff000000).pixel(0, 0), 255);
    }

    @Says("from (4 block, y) on.")
    static void theFirstBlockAndLine() {
        Check.same("pixel(0, 0)", put(8, 8, 0, 0, 0x09080706).pixel(0, 0), 9);
        Check.same("pixel(3, 0)", put(8, 8, 0, 0, 0x09080706).pixel(3, 0), 6);
    }

    @Says("from (4 block, y) on.")
    static void theLastBlockAndLine() {
        Check.same("pixel(28, 31)", put(8, 8, 7, 31, 0x09080706).pixel(28, 31), 9);
        Check.same("pixel(31, 31)", put(8, 8, 7, 31, 0x09080706).pixel(31, 31), 6);
    }

    @Says("from (4 block, y) on.")
    static void aLineOfTheSecondRowOfBlocks() {
        Check.same("pixel(4, 5)", put(2, 2, 1, 5, 0x09080706).pixel(4, 5), 9);
        Check.same("pixel(0, 5)", put(2, 2, 1, 5, 0x09080706).pixel(0, 5), 0);
    }

    @Says("IllegalArgumentException: there are none such.")
    static void blockBelowZero() {
        Check.refused("put(-1, 0)", Made::used, mill -> mill.put(-1, 0, -1));
    }

    /** The picture has four blocks, but only two across. */
    @Says("IllegalArgumentException: there are none such.")
    static void blockOnTheRightOfTheLast() {
        Check.refused("put(2, 0)", Made::used, mill -> mill.put(2, 0, -1));
        Check.refused("put(3, 7)", Made::used, mill -> mill.put(3, 7, -1));
        Check.refused("put(7, 0) of one block", IntraMill::new, mill -> mill.put(7, 0, -1));
    }

    @Says("IllegalArgumentException: there are none such.")
    static void lineAboveTheFirst() {
        Check.refused("put(0, -1)", Made::used, mill -> mill.put(0, -1, -1));
    }

    @Says("IllegalArgumentException: there are none such.")
    static void lineBelowTheLast() {
        Check.refused("put(0, 8)", Made::used, mill -> mill.put(0, 8, -1));
        Check.refused("put(1, 31)", Made::used, mill -> mill.put(1, 31, -1));
        Check.refused("put(0, 4) of one block", IntraMill::new, mill -> mill.put(0, 4, -1));
    }

    @Says("IllegalArgumentException: there are none such.")
    static void behindTheGreatestPicture() {
        Check.refused("put(8, 0)", Made.begun(8, 8), mill -> mill.put(8, 0, -1));
        Check.refused("put(0, 32)", Made.begun(8, 8), mill -> mill.put(0, 32, -1));
    }

    /** Four times these blocks wraps round to 0 and to 4. */
    @Says("IllegalArgumentException: there are none such.")
    static void blocksThatWrapRound() {
        Check.refused("put(1 << 30, 0)", Made::used, mill -> mill.put(1 << 30, 0, -1));
        Check.refused("put((1 << 30) + 1, 0)", Made::used, mill -> mill.put((1 << 30) + 1, 0, -1));
        Check.refused("put(MIN, 0)", Made::used, mill -> mill.put(Integer.MIN_VALUE, 0, -1));
    }

    @Says("IllegalArgumentException: there are none such.")
    static void theFarthestNumbers() {
        Check.refused("put(MAX, 0)", Made::used, mill -> mill.put(Integer.MAX_VALUE, 0, -1));
        Check.refused("put(0, MAX)", Made::used, mill -> mill.put(0, Integer.MAX_VALUE, -1));
        Check.refused("put(0, MIN)", Made::used, mill -> mill.put(0, Integer.MIN_VALUE, -1));
    }
}
