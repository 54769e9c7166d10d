import java.util.function.Supplier;

@Part(name = "Promise 8: feed", from = "`int feed(int four) throws IllegalStateException`:", to = "## Promise 9")
public final class Promise08FeedTest {
    public static void main(String[] args) {
        Check.run(Promise08FeedTest.class);
    }

    /**
     * An object with so many bytes. 8000 of them need more calls than the 512 of which the document promises the
     * answers, pack()'s bytes being far fewer; this class answers later calls as it does the first.
     */
    private static Supplier<IntraMill> withBytes(int bytes) {
        return () -> {
            IntraMill mill = new IntraMill();
            for (int k = 0; k < bytes; k += 4) {
                mill.feed(k);
            }
            mill.end(bytes);
            return mill;
        };
    }

    private static void tooMany(int bytes) {
        Check.refused("feed() behind " + bytes, withBytes(bytes), IllegalStateException.class, mill -> mill.feed(-1));
    }

    @Says("Four bytes come behind the bits,")
    static void fourInAnEmptyObject() {
        Check.same("bytes", Sight.bytes(() -> Made.fed(0x01ff8000)), "1 255 128 0 ");
    }

    @Says("Four bytes come behind the bits,")
    static void fourBehindFour() {
        Check.same("bytes", Sight.bytes(() -> Made.fed(0x01ff8000, 0xfe7f0203)), "1 255 128 0 254 127 2 3 ");
    }

    @Says("Four bytes come behind the bits,")
    static void behindThreeThatWereKept() {
        IntraMill mill = Made.fed(0x01ff8000, 0xfe7f0203);
        mill.end(3);
        Check.same("feed(-2)", mill.feed(-2), 7);
        Check.same("bytes", Sight.bytes(() -> mill), "1 255 128 255 255 255 254 ");
    }

    @Says("Four bytes come behind the bits,")
    static void behindWhatWasPacked() {
        IntraMill mill = Made.flat(1, 1, 128);
        mill.pack(20, false);
        Check.same("feed(1)", mill.feed(1), 6);
        Check.same("bytes", Sight.bytes(() -> mill), "194 172 0 0 0 1 ");
    }

    @Says("Four bytes come behind the bits,")
    static void allElseStays() {
        IntraMill mill = Made.used();
        mill.feed(0x12345678);
        Check.same("pixels", Sight.pixels(() -> mill), Sight.pixels(Made::used));
        Check.same("blocks", Sight.blocks(() -> mill), Sight.blocks(Made::used));
        Check.same("QP", mill.about(2), 17);
        Check.same("place()", mill.place(), 1);
    }

    @Says("the highest first:")
    static void theHighestByteIsTheFirst() {
        IntraMill mill = Made.fed(0x80010203);
        Check.same("bits(0)", mill.bits(0), 128);
        Check.same("bits(3)", mill.bits(3), 3);
    }

    @Says("how many.")
    static void theCountOfAllBytes() {
        IntraMill mill = new IntraMill();
        Check.same("feed(0)", mill.feed(0), 4);
        Check.same("feed(0)", mill.feed(0), 8);
        Check.same("about(4)", mill.about(4), 8);
        mill.end(0);
        Check.same("feed(0)", mill.feed(0), 4);
    }

    @Says("how many.")
    static void the8000thByteIsGood() {
        IntraMill mill = withBytes(7996).get();
        Check.same("feed() behind 7996", mill.feed(0x09080706), 8000);
        Check.same("bits(7996)", mill.bits(7996), 9);
        Check.same("bits(7999)", mill.bits(7999), 6);
        Check.same("bits(8000)", mill.bits(8000), IntraMill.NONE);
    }

    @Says("IllegalStateException: there would be more than 8000.")
    static void noneBehind8000() {
        tooMany(8000);
    }

    @Says("IllegalStateException: there would be more than 8000.")
    static void oneByteTooMany() {
        tooMany(7997);
    }

    @Says("IllegalStateException: there would be more than 8000.")
    static void twoAndThreeTooMany() {
        tooMany(7998);
        tooMany(7999);
    }

    @Says("IllegalStateException: there would be more than 8000.")
    static void thereIsRoomAgainBehindEnd() {
        IntraMill mill = withBytes(8000).get();
        mill.end(10);
        Check.same("feed(1)", mill.feed(1), 14);
    }
}
