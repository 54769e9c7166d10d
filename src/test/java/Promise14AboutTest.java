@Part(name = "Promise 14: about", from = "`int about(int what) throws IllegalArgumentException`:",
        to = "## Not promised")
public final class Promise14AboutTest {
    public static void main(String[] args) {
        Check.run(Promise14AboutTest.class);
    }

    private static void about(IntraMill mill, String name, int... due) {
        for (int what = 0; what < due.length; what++) {
            Check.same(name + ": about(" + what + ")", mill.about(what), due[what]);
        }
    }

    private static void unpack(IntraMill mill, BitText bits) {
        BitText.load(mill, bits.filled());
        mill.unpack();
    }

    @Says("Blocks across (what = 0), down (1),")
    static void theLeastAndTheMost() {
        about(Made.begun(1, 1).get(), "begun", 1, 1);
        about(Made.begun(8, 8).get(), "begun", 8, 8);
        about(Made.begun(8, 1).get(), "begun", 8, 1);
        about(BitText.head(1, 8, 0, 0).plain(8).unpacked().get(), "unpacked", 1, 8);
        about(BitText.head(8, 8, 0, 0).plain(64).unpacked().get(), "unpacked", 8, 8);
    }

    /** A picture is never of 0 blocks: it has its own number behind begin(), and in a new object. */
    @Says("Blocks across (what = 0), down (1),")
    static void ofThePictureThatIsThere() {
        about(new IntraMill(), "new", 1, 1);
        IntraMill mill = Made.used();
        mill.begin(3, 5);
        about(mill, "begun", 3, 5);
    }

    @Says("QP (2)")
    static void theLeastAndTheMostQp() {
        IntraMill mill = Made.used();
        mill.pack(51, false);
        about(mill, "packed", 2, 2, 51);
        mill.pack(0, false);
        about(mill, "packed", 2, 2, 0);
        unpack(mill, BitText.head(1, 1, 51, 0).plain(1));
        about(mill, "unpacked", 1, 1, 51);
        unpack(mill, BitText.head(1, 1, 0, 0).plain(1));
        about(mill, "unpacked", 1, 1, 0);
    }

    @Says("and whether it was smoothed (3)")
    static void oneIfItWas() {
        IntraMill mill = Made.used();
        mill.pack(0, true);
        about(mill, "packed", 2, 2, 0, 1);
        unpack(mill, BitText.head(1, 1, 9, 1).plain(1));
        about(mill, "unpacked", 1, 1, 9, 1);
    }

    @Says("and whether it was smoothed (3)")
    static void zeroIfItWasNot() {
        IntraMill mill = Made.used();
        mill.pack(40, false);
        about(mill, "packed", 2, 2, 40, 0);
        mill.pack(40, true);
        unpack(mill, BitText.head(1, 1, 9, 0).plain(1));
        about(mill, "unpacked", 1, 1, 9, 0);
    }

    @Says("of what was packed or unpacked latest")
    static void unpackedBehindPacked() {
        IntraMill mill = Made.used();
        about(mill, "packed", 2, 2, 17, 1);
        BitText.load(mill, BitText.head(3, 1, 44, 0).plain(3).filled());
        about(mill, "not yet unpacked", 2, 2, 17, 1);
        mill.unpack();
        about(mill, "unpacked", 3, 1, 44, 0);
    }

    @Says("of what was packed or unpacked latest")
    static void packedBehindUnpacked() {
        IntraMill mill = BitText.head(3, 1, 44, 1).plain(3).unpacked().get();
        about(mill, "unpacked", 3, 1, 44, 1);
        mill.pack(12, false);
        about(mill, "packed", 3, 1, 12, 0);
    }

    @Says("of what was packed or unpacked latest")
    static void aFaultLeavesIt() {
        IntraMill mill = Made.used();
        unpack(mill, BitText.head(3, 1, 44, 0).plain(2));
        Check.same("place()", mill.place() != IntraMill.NONE);
        about(mill, "a fault", 2, 2, 17, 1);
    }

    @Says("(0 behind begin()),")
    static void noQpBehindBegin() {
        IntraMill mill = Made.used();
        mill.begin(2, 2);
        Check.same("about(2)", mill.about(2), 0);
    }

    @Says("(0 behind begin()),")
    static void notSmoothedBehindBegin() {
        IntraMill mill = Made.used();
        mill.begin(2, 2);
        Check.same("about(3)", mill.about(3), 0);
    }

    @Says("(0 behind begin()),")
    static void noneInANewObject() {
        Check.same("about(2)", new IntraMill().about(2), 0);
        Check.same("about(3)", new IntraMill().about(3), 0);
    }

    @Says("bytes (4).")
    static void noBytes() {
        Check.same("new", new IntraMill().about(4), 0);
    }

    @Says("bytes (4).")
    static void asManyAsThereAreNow() {
        IntraMill mill = new IntraMill();
        mill.feed(1);
        Check.same("fed", mill.about(4), 4);
        mill.end(3);
        Check.same("ended", mill.about(4), 3);
        mill.alter(2, 9);
        Check.same("altered", mill.about(4), 3);
        mill.begin(2, 2);
        Check.same("begun", mill.about(4), 3);
        mill.unpack();
        Check.same("unpacked", mill.about(4), 3);
        Check.same("packed", mill.pack(30, true), mill.about(4));
    }

    @Says("IllegalArgumentException.")
    static void belowZero() {
        Check.refused("about(-1)", Made::used, mill -> mill.about(-1));
    }

    @Says("IllegalArgumentException.")
    static void aboveFour() {
        Check.refused("about(5)", Made::used, mill -> mill.about(5));
        Check.refused("about(5)", IntraMill::new, mill -> mill.about(5));
    }

    @Says("IllegalArgumentException.")
    static void theFarthestNumbers() {
        Check.refused("about(MIN)", Made::used, mill -> mill.about(Integer.MIN_VALUE));
        Check.refused("about(MAX)", Made::used, mill -> mill.about(Integer.MAX_VALUE));
    }
}
