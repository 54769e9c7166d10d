@Part(name = "Promise 10: alter", from = "`int alter(int i, int b) throws IllegalArgumentException`:",
        to = "## Promise 11")
public final class Promise10AlterTest {
    public static void main(String[] args) {
        Check.run(Promise10AlterTest.class);
    }

    private static IntraMill eight() {
        return Made.fed(0x01ff8000, 0xfe7f0203);
    }

    private static IntraMill altered(int i, int b) {
        IntraMill mill = eight();
        mill.alter(i, b);
        return mill;
    }

    @Says("Byte i of the bits becomes this")
    static void theFirst() {
        Check.same("bytes", Sight.bytes(() -> altered(0, 77)), "77 255 128 0 254 127 2 3 ");
    }

    @Says("Byte i of the bits becomes this")
    static void theLast() {
        Check.same("bytes", Sight.bytes(() -> altered(7, 77)), "1 255 128 0 254 127 2 77 ");
    }

    @Says("Byte i of the bits becomes this")
    static void whatIsAlteredIsUnpacked() {
        IntraMill mill = BitText.head(1, 1, 3, 0).plain(1).fed().get();
        mill.alter(1, 0);
        Check.same("unpack() of a mode that is not there", mill.unpack(), -3);
        mill.alter(1, 0xc0);
        Check.same("unpack()", mill.unpack(), 0);
    }

    @Says("Byte i of the bits becomes this")
    static void allElseStays() {
        IntraMill mill = Made.used();
        int bytes = mill.about(4);
        mill.alter(0, 99);
        Check.same("about(4)", mill.about(4), bytes);
        Check.same("pixels", Sight.pixels(() -> mill), Sight.pixels(Made::used));
        Check.same("blocks", Sight.blocks(() -> mill), Sight.blocks(Made::used));
        Check.same("place()", mill.place(), 1);
    }

    @Says("(its lowest eight bits):")
    static void theLeastAndTheMost() {
        Check.same("0", altered(4, 0).bits(4), 0);
        Check.same("127", altered(4, 127).bits(4), 127);
        Check.same("128", altered(4, 128).bits(4), 128);
        Check.same("255", altered(4, 255).bits(4), 255);
    }

    @Says("(its lowest eight bits):")
    static void aboveTheMostItWrapsRound() {
        Check.same("256", altered(4, 256).bits(4), 0);
        Check.same("0x1234", altered(4, 0x1234).bits(4), 0x34);
        Check.same("MAX", altered(4, Integer.MAX_VALUE).bits(4), 255);
    }

    @Says("(its lowest eight bits):")
    static void belowTheLeastItWrapsRound() {
        Check.same("-1", altered(4, -1).bits(4), 255);
        Check.same("-256", altered(4, -256).bits(4), 0);
        Check.same("MIN", altered(4, Integer.MIN_VALUE).bits(4), 0);
    }

    @Says("what it was.")
    static void theByteBefore() {
        IntraMill mill = eight();
        Check.same("alter(2, 7)", mill.alter(2, 7), 128);
        Check.same("alter(2, -1)", mill.alter(2, -1), 7);
        Check.same("alter(2, 0x1ff)", mill.alter(2, 0x1ff), 255);
        Check.same("alter(3, 1)", mill.alter(3, 1), 0);
    }

    @Says("IllegalArgumentException: there is none such.")
    static void belowTheFirst() {
        Check.refused("alter(-1)", Promise10AlterTest::eight, mill -> mill.alter(-1, 5));
    }

    @Says("IllegalArgumentException: there is none such.")
    static void behindTheLast() {
        Check.refused("alter(8) of eight", Promise10AlterTest::eight, mill -> mill.alter(8, 5));
        Check.refused("alter(9) of eight", Promise10AlterTest::eight, mill -> mill.alter(9, 5));
    }

    @Says("IllegalArgumentException: there is none such.")
    static void ofNoBytes() {
        Check.refused("alter(0) of none", IntraMill::new, mill -> mill.alter(0, 5));
    }

    @Says("IllegalArgumentException: there is none such.")
    static void whereOneWasCutOff() {
        Check.refused("alter(3) of three", () -> {
            IntraMill mill = eight();
            mill.end(3);
            return mill;
        }, mill -> mill.alter(3, 5));
    }

    @Says("IllegalArgumentException: there is none such.")
    static void theFarthestNumbers() {
        Check.refused("alter(7999)", Promise10AlterTest::eight, mill -> mill.alter(7999, 5));
        Check.refused("alter(8000)", Promise10AlterTest::eight, mill -> mill.alter(8000, 5));
        Check.refused("alter(MAX)", Promise10AlterTest::eight, mill -> mill.alter(Integer.MAX_VALUE, 5));
        Check.refused("alter(MIN)", Promise10AlterTest::eight, mill -> mill.alter(Integer.MIN_VALUE, 5));
    }
}
