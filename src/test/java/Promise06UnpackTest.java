@Part(name = "Promise 6: unpack", from = "`int unpack()`:", to = "## Promise 7")
public final class Promise06UnpackTest {
    /** Bits with each fault, from 1 on. */
    private static final String[] FAULTY = {
        BitText.head(1, 1, 3, 0).filled(),
        new BitText().u(8).u(0).u(0).raw("0").plain(9).filled(),
        BitText.head(2, 1, 3, 0).mode(0, 2).levels().plain(1).filled(),
        BitText.head(1, 1, 3, 0).raw("1").u(17).filled(),
        BitText.head(1, 1, 3, 0).raw("1").u(1).u(16).s(1).filled(),
        BitText.head(1, 1, 3, 0).raw("1").u(1).u(0).s(0).filled(),
        BitText.head(1, 1, 3, 0).plain(1).filled() + "00000000"
    };

    public static void main(String[] args) {
        Check.run(Promise06UnpackTest.class);
    }

    private static IntraMill unpacked(IntraMill mill, String bits, int due) {
        BitText.load(mill, bits);
        Check.same("unpack()", mill.unpack(), due);
        return mill;
    }

    @Says("The bits are unpacked: the picture becomes that;")
    static void theLeastPicture() {
        IntraMill mill = unpacked(Made.used(), BitText.head(1, 1, 0, 0).plain(1).filled(), 0);
        Check.same("the object", Sight.of(() -> mill),
                "1 1 0 0 1 place -1\n" + Made.grey(1, 1, 128) + "2 " + "0 ".repeat(16) + "\n" + "236 ");
    }

    @Says("The bits are unpacked: the picture becomes that;")
    static void theGreatestPicture() {
        String bits = BitText.head(8, 8, 51, 1).plain(64).filled();
        Check.same("pixels", Sight.pixels(() -> unpacked(Made.used(), bits, 0)), Made.grey(8, 8, 128));
        IntraMill mill = unpacked(Made.used(), bits, 0);
        Check.same("about(0)", mill.about(0), 8);
        Check.same("about(1)", mill.about(1), 8);
        Check.same("about(2)", mill.about(2), 51);
        Check.same("about(3)", mill.about(3), 1);
    }

    @Says("The bits are unpacked: the picture becomes that;")
    static void aSmallerPictureTakesAGreatersPlace() {
        IntraMill mill = unpacked(Made.white(8, 8), BitText.head(2, 3, 9, 0).plain(6).filled(), 0);
        Check.same("pixels", Sight.pixels(() -> mill), Made.grey(2, 3, 128));
    }

    /** Were a pixel of the picture before looked at, the means would not be 128. */
    @Says("The bits are unpacked: the picture becomes that;")
    static void nothingOfThePictureBeforeIsLeft() {
        String bits = BitText.head(8, 8, 9, 0).plain(64).filled();
        Check.same("pixels", Sight.pixels(() -> unpacked(Made.white(8, 8), bits, 0)), Made.grey(8, 8, 128));
    }

    @Says("The bits are unpacked: the picture becomes that;")
    static void coefficientsOfThePictureBeforeAreGone() {
        IntraMill mill = unpacked(Made.used(), BitText.head(1, 2, 9, 0).one(15, 2048).one(0, -7).filled(), 0);
        unpacked(mill, BitText.head(1, 2, 9, 0).plain(2).filled(), 0);
        unpacked(mill, BitText.head(1, 2, 9, 0).plain(2).filled(), 0);
        Check.same("blocks", Sight.blocks(() -> mill), ("2 " + "0 ".repeat(16) + "\n").repeat(2));
        Check.same("pixels", Sight.pixels(() -> mill), Made.grey(1, 2, 128));
    }

    @Says("The bits are unpacked: the picture becomes that;")
    static void theBitsStay() {
        String bits = BitText.head(2, 3, 9, 0).plain(6).filled();
        IntraMill mill = unpacked(new IntraMill(), bits, 0);
        Check.same("bits", Sight.bits(() -> mill), bits);
        Check.same("unpack() again", mill.unpack(), 0);
    }

    @Says("The bits are unpacked: the picture becomes that;")
    static void smoothedIfTheBitsSayIt() {
        String sharp = BitText.head(2, 1, 24, 0).plain(1).one(0, -5).filled();
        String smooth = BitText.head(2, 1, 24, 1).plain(1).one(0, -5).filled();
        Check.same("not", Sight.pixels(() -> unpacked(new IntraMill(), sharp, 0)),
                "128 128 128 128 116 116 116 116 \n".repeat(4));
        Check.same("smoothed", Sight.pixels(() -> unpacked(new IntraMill(), smooth, 0)),
                "128 128 128 124 120 116 116 116 \n".repeat(4));
    }

    @Says("or the fault, below 0")
    static void eachFaultHasItsNumberBelowZero() {
        for (int fault = 1; fault <= FAULTY.length; fault++) {
            unpacked(new IntraMill(), FAULTY[fault - 1], -fault);
        }
    }

    @Says("or the fault, below 0")
    static void noBitsAreFaultOne() {
        unpacked(new IntraMill(), "", -1);
        unpacked(Made.used(), "", -1);
    }

    @Says("(the picture stays)")
    static void thePictureStaysWithEachFault() {
        for (String bits : FAULTY) {
            IntraMill mill = Made.used();
            BitText.load(mill, bits);
            mill.unpack();
            Check.same("pixels", Sight.pixels(() -> mill), Sight.pixels(Made::used));
            Check.same("about(0)", mill.about(0), 2);
            Check.same("about(1)", mill.about(1), 2);
        }
    }

    @Says("(the picture stays)")
    static void whatWasPackedLatestStaysToo() {
        for (String bits : FAULTY) {
            IntraMill mill = Made.used();
            BitText.load(mill, bits);
            mill.unpack();
            Check.same("blocks", Sight.blocks(() -> mill), Sight.blocks(Made::used));
            Check.same("about(2)", mill.about(2), 17);
            Check.same("about(3)", mill.about(3), 1);
            Check.same("bits", Sight.bits(() -> mill), bits);
        }
    }

    /** The last bit of many is wrong: the whole picture was read before it. */
    @Says("(the picture stays)")
    static void aFaultAtTheVeryEnd() {
        String good = BitText.head(2, 2, 5, 1).one(0, 9).one(1, 8).one(2, 7).one(3, 2).filled();
        IntraMill mill = Made.used();
        unpacked(mill, good.substring(0, good.length() - 1) + "1", -7);
        Check.same("pixels", Sight.pixels(() -> mill), Sight.pixels(Made::used));
        Check.same("blocks", Sight.blocks(() -> mill), Sight.blocks(Made::used));
        unpacked(mill, good, 0);
        Check.same("block(3, 3)", mill.block(3, 3), 2);
    }

    @Says("stays): 0.")
    static void zeroWithoutAFault() {
        unpacked(new IntraMill(), BitText.head(1, 1, 0, 0).plain(1).filled(), 0);
        unpacked(Made.used(), BitText.head(3, 2, 33, 1).plain(6).filled(), 0);
    }

    @Says("stays): 0.")
    static void zeroBehindAFault() {
        IntraMill mill = unpacked(new IntraMill(), FAULTY[3], -4);
        unpacked(mill, BitText.head(1, 1, 51, 0).plain(1).filled(), 0);
    }
}
