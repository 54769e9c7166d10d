import java.util.Arrays;

@Part(name = "Promise 7: place", from = "`int place()`:", to = "## Promise 8")
public final class Promise07PlaceTest {
    private static final String GOOD = BitText.head(1, 1, 3, 0).plain(1).filled();
    /** Fault 4, at bit 9. */
    private static final String BAD = BitText.head(1, 1, 3, 0).raw("1").u(17).filled();

    public static void main(String[] args) {
        Check.run(Promise07PlaceTest.class);
    }

    private static void unpack(IntraMill mill, String bits) {
        BitText.load(mill, bits);
        mill.unpack();
    }

    @Says("The latest unpack()'s fault's bit;")
    static void theFirstBitIsBitZero() {
        IntraMill mill = new IntraMill();
        mill.unpack();
        Check.same("place()", mill.place(), 0);
    }

    @Says("The latest unpack()'s fault's bit;")
    static void aBitOfALaterByte() {
        IntraMill mill = new IntraMill();
        unpack(mill, BAD);
        Check.same("place()", mill.place(), 9);
        Check.same("place() again", mill.place(), 9);
    }

    /** 63 blocks of 106 bits come before it. */
    @Says("The latest unpack()'s fault's bit;")
    static void aBitFarBehind() {
        BitText bits = BitText.head(8, 8, 51, 0);
        int[] levels = new int[16];
        Arrays.fill(levels, 2);
        for (int block = 0; block < 63; block++) {
            bits.raw("1").levels(levels);
        }
        bits.raw("1");
        int due = bits.length();
        IntraMill mill = new IntraMill();
        unpack(mill, bits.u(17).filled());
        Check.same("place()", mill.place(), due);
    }

    @Says("The latest unpack()'s fault's bit;")
    static void theLatestOfTwoFaults() {
        IntraMill mill = new IntraMill();
        unpack(mill, BAD);
        unpack(mill, "10000000");
        Check.same("place()", mill.place(), 1);
        unpack(mill, BAD);
        Check.same("place()", mill.place(), 9);
    }

    @Says("The latest unpack()'s fault's bit;")
    static void otherCallsLeaveIt() {
        IntraMill mill = new IntraMill();
        unpack(mill, BAD);
        mill.feed(0);
        mill.alter(0, 0);
        mill.end(0);
        Check.same("behind feed, alter and end", mill.place(), 9);
        mill.begin(2, 2);
        mill.put(0, 0, 5);
        Check.same("behind begin and put", mill.place(), 9);
        mill.pack(5, true);
        Check.same("behind pack", mill.place(), 9);
    }

    @Says("NONE without one.")
    static void noneBeforeTheFirstUnpack() {
        Check.same("place()", new IntraMill().place(), IntraMill.NONE);
        IntraMill mill = Made.fed(0);
        mill.pack(5, true);
        Check.same("place()", mill.place(), IntraMill.NONE);
    }

    @Says("NONE without one.")
    static void noneBehindAGoodUnpack() {
        IntraMill mill = new IntraMill();
        unpack(mill, GOOD);
        Check.same("place()", mill.place(), IntraMill.NONE);
    }

    @Says("NONE without one.")
    static void noneBehindAFaultAndAGoodUnpack() {
        IntraMill mill = new IntraMill();
        unpack(mill, BAD);
        unpack(mill, GOOD);
        Check.same("place()", mill.place(), IntraMill.NONE);
    }
}
