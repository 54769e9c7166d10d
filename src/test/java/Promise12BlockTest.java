@Part(name = "Promise 12: block", from = "`int block(int block, int what) throws IllegalArgumentException`:",
        to = "## Promise 13")
public final class Promise12BlockTest {
    public static void main(String[] args) {
        Check.run(Promise12BlockTest.class);
    }

    private static IntraMill unpacked() {
        return BitText.head(1, 3, 7, 0).plain(1).mode(0, 2).levels(0, 0, 0, 9, -8).mode(3, 2).levels().unpacked().get();
    }

    @Says("Of a block of the picture packed or unpacked latest")
    static void packedLatest() {
        IntraMill mill = unpacked();
        mill.begin(1, 1);
        mill.pack(0, false);
        Check.same("mode", mill.block(0, IntraMill.NONE), 2);
        Check.same("128 below: 2048 13107 and 10922, by 32768", mill.block(0, 0), -(2048 * 13107 + 10922) / 32768);
    }

    @Says("Of a block of the picture packed or unpacked latest")
    static void packedAgain() {
        IntraMill mill = unpacked();
        Made.fill(mill, 0, 0, 128);
        Made.fill(mill, 0, 1, 128);
        Made.fill(mill, 0, 2, 128);
        mill.pack(7, false);
        Check.same("blocks", Sight.blocks(() -> mill), ("2 " + "0 ".repeat(16) + "\n")
                + ("0 " + "0 ".repeat(16) + "\n").repeat(2));
    }

    @Says("Of a block of the picture packed or unpacked latest")
    static void unpackedLatest() {
        Check.same("blocks", Sight.blocks(Promise12BlockTest::unpacked), "2 0 0 0 0 0 0 0 0 0 0 0 0 0 0 0 0 \n"
                + "0 0 0 0 9 -8 0 0 0 0 0 0 0 0 0 0 0 \n3 0 0 0 0 0 0 0 0 0 0 0 0 0 0 0 0 \n");
    }

    @Says("Of a block of the picture packed or unpacked latest")
    static void unpackedBehindPacked() {
        IntraMill mill = Made.used();
        BitText.load(mill, BitText.head(2, 2, 7, 0).one(3, -2048).plain(3).filled());
        Check.same("before", Sight.blocks(() -> mill), Sight.blocks(Made::used));
        mill.unpack();
        Check.same("block(0, 3)", mill.block(0, 3), -2048);
        Check.same("block(1, 0)", mill.block(1, 0), 0);
    }

    @Says("Of a block of the picture packed or unpacked latest")
    static void putAndTheBytesCallsLeaveIt() {
        IntraMill mill = unpacked();
        mill.put(0, 0, -1);
        mill.feed(-1);
        mill.alter(0, 0);
        mill.end(0);
        Check.same("blocks", Sight.blocks(() -> mill), Sight.blocks(Promise12BlockTest::unpacked));
    }

    @Says("Of a block of the picture packed or unpacked latest")
    static void anUnpackWithAFaultLeavesIt() {
        IntraMill mill = unpacked();
        BitText.load(mill, BitText.head(1, 3, 7, 0).one(0, 5).one(0, 5).filled());
        Check.same("unpack()", mill.unpack(), -1);
        Check.same("blocks", Sight.blocks(() -> mill), Sight.blocks(Promise12BlockTest::unpacked));
    }

    @Says("(0 and NONE behind begin()):")
    static void nothingBehindBegin() {
        IntraMill mill = unpacked();
        mill.begin(1, 3);
        Check.same("blocks", Sight.blocks(() -> mill), Made.noBlocks(3));
    }

    @Says("(0 and NONE behind begin()):")
    static void nothingBehindBeginOfAGreaterPicture() {
        IntraMill mill = unpacked();
        mill.begin(8, 8);
        Check.same("block(0, NONE)", mill.block(0, IntraMill.NONE), IntraMill.NONE);
        Check.same("block(1, 3)", mill.block(1, 3), 0);
        Check.same("block(63, NONE)", mill.block(63, IntraMill.NONE), IntraMill.NONE);
        Check.same("block(63, 15)", mill.block(63, 15), 0);
    }

    @Says("(0 and NONE behind begin()):")
    static void nothingBehindBeginAndPut() {
        IntraMill mill = unpacked();
        mill.begin(1, 1);
        mill.put(0, 0, -1);
        Check.same("blocks", Sight.blocks(() -> mill), Made.noBlocks(1));
    }

    @Says("its mode (what = NONE;")
    static void theModeOfEachBlock() {
        IntraMill mill = unpacked();
        Check.same("block(0, NONE)", mill.block(0, IntraMill.NONE), 2);
        Check.same("block(1, NONE)", mill.block(1, IntraMill.NONE), 0);
        Check.same("block(2, NONE)", mill.block(2, IntraMill.NONE), 3);
    }

    @Says("NONE if there is none),")
    static void noModeInANewObject() {
        Check.same("block(0, NONE)", new IntraMill().block(0, IntraMill.NONE), IntraMill.NONE);
    }

    @Says("NONE if there is none),")
    static void noModeBehindAFaultAlone() {
        IntraMill mill = BitText.head(1, 1, 3, 0).mode(0, 2).fed().get();
        Check.same("unpack()", mill.unpack(), -3);
        Check.same("block(0, NONE)", mill.block(0, IntraMill.NONE), IntraMill.NONE);
    }

    @Says("coefficient i in the order (0 .. 15).")
    static void theFirstAndTheLast() {
        IntraMill mill = BitText.head(1, 1, 0, 0).raw("1").levels(3, 0, 0, 0, 0, 0, 0, 0, 0, 0, 0, 0, 0, 0, 0, -4)
                .unpacked().get();
        Check.same("block(0, 0)", mill.block(0, 0), 3);
        Check.same("block(0, 1)", mill.block(0, 1), 0);
        Check.same("block(0, 14)", mill.block(0, 14), 0);
        Check.same("block(0, 15)", mill.block(0, 15), -4);
    }

    @Says("coefficient i in the order (0 .. 15).")
    static void allOfThemInTheOrderOfTheBits() {
        BitText bits = BitText.head(1, 1, 6, 0).raw("1").u(16);
        for (int i = 0; i < 16; i++) {
            bits.u(0).s(i % 2 == 0 ? i + 1 : -i - 1);
        }
        IntraMill mill = bits.unpacked().get();
        for (int i = 0; i < 16; i++) {
            Check.same("block(0, " + i + ")", mill.block(0, i), i % 2 == 0 ? i + 1 : -i - 1);
        }
    }

    @Says("coefficient i in the order (0 .. 15).")
    static void theLeastAndTheMost() {
        IntraMill mill = BitText.head(1, 1, 0, 0).raw("1").levels(2048, -2048).unpacked().get();
        Check.same("block(0, 0)", mill.block(0, 0), 2048);
        Check.same("block(0, 1)", mill.block(0, 1), -2048);
    }

    @Says("IllegalArgumentException: there is no such block,")
    static void blockBelowZero() {
        Check.refused("block(-1, 0)", Made::used, mill -> mill.block(-1, 0));
        Check.refused("block(-1, NONE)", Made::used, mill -> mill.block(-1, IntraMill.NONE));
    }

    @Says("IllegalArgumentException: there is no such block,")
    static void blockBehindTheLast() {
        Check.refused("block(4, 0)", Made::used, mill -> mill.block(4, 0));
        Check.refused("block(4, NONE)", Made::used, mill -> mill.block(4, IntraMill.NONE));
        Check.refused("block(1, 0) of a new object", IntraMill::new, mill -> mill.block(1, 0));
        Check.refused("block(3, 0)", Promise12BlockTest::unpacked, mill -> mill.block(3, 0));
        Check.refused("block(64, 0)", Made.begun(8, 8), mill -> mill.block(64, 0));
    }

    @Says("IllegalArgumentException: there is no such block,")
    static void whereAGreaterPictureHadOne() {
        Check.refused("block(1, 0)", () -> {
            IntraMill mill = Made.used();
            mill.begin(1, 1);
            return mill;
        }, mill -> mill.block(1, 0));
    }

    @Says("IllegalArgumentException: there is no such block,")
    static void theFarthestBlocks() {
        Check.refused("block(MIN, 0)", Made::used, mill -> mill.block(Integer.MIN_VALUE, 0));
        Check.refused("block(MAX, 0)", Made::used, mill -> mill.block(Integer.MAX_VALUE, 0));
        Check.refused("block(1 << 28, 0), which 16 wrap round", Made::used, mill -> mill.block(1 << 28, 0));
    }

    @Says("or what is none of these.")
    static void whatBelowNone() {
        Check.refused("block(0, -2)", Made::used, mill -> mill.block(0, -2));
    }

    @Says("or what is none of these.")
    static void whatAbove15() {
        Check.refused("block(0, 16)", Made::used, mill -> mill.block(0, 16));
        Check.refused("block(3, 16)", Made::used, mill -> mill.block(3, 16));
    }

    @Says("or what is none of these.")
    static void theFarthestOfWhat() {
        Check.refused("block(0, MIN)", Made::used, mill -> mill.block(0, Integer.MIN_VALUE));
        Check.refused("block(0, MAX)", Made::used, mill -> mill.block(0, Integer.MAX_VALUE));
    }
}
