@Part(name = "Promise 11: bits", from = "`int bits(int i)`:", to = "## Promise 12")
public final class Promise11BitsTest {
    public static void main(String[] args) {
        Check.run(Promise11BitsTest.class);
    }

    private static IntraMill eight() {
        return Made.fed(0x01ff8000, 0xfe7f0203);
    }

    @Says("Byte i of the bits;")
    static void theFirstAndTheLast() {
        Check.same("bits(0)", eight().bits(0), 1);
        Check.same("bits(7)", eight().bits(7), 3);
    }

    @Says("Byte i of the bits;")
    static void theyHaveNoSign() {
        Check.same("bits(1)", eight().bits(1), 255);
        Check.same("bits(2)", eight().bits(2), 128);
        Check.same("bits(3)", eight().bits(3), 0);
        Check.same("bits(5)", eight().bits(5), 127);
    }

    @Says("Byte i of the bits;")
    static void ofWhatWasPacked() {
        IntraMill mill = Made.flat(1, 1, 128);
        mill.pack(20, false);
        Check.same("bits(0)", mill.bits(0), 194);
        Check.same("bits(1)", mill.bits(1), 172);
    }

    @Says("Byte i of the bits;")
    static void nothingChanges() {
        Check.same("the object", Sight.of(() -> {
            IntraMill mill = Made.used();
            mill.bits(0);
            mill.bits(-1);
            return mill;
        }), Sight.of(Made::used));
    }

    @Says("NONE if there is none.")
    static void belowTheFirst() {
        Check.same("bits(-1)", eight().bits(-1), IntraMill.NONE);
    }

    @Says("NONE if there is none.")
    static void behindTheLast() {
        Check.same("bits(8) of eight", eight().bits(8), IntraMill.NONE);
    }

    @Says("NONE if there is none.")
    static void ofNoBytes() {
        Check.same("bits(0) of none", new IntraMill().bits(0), IntraMill.NONE);
    }

    @Says("NONE if there is none.")
    static void whereOneWasCutOff() {
        IntraMill mill = eight();
        mill.end(2);
        Check.same("bits(1) of two", mill.bits(1), 255);
        Check.same("bits(2) of two", mill.bits(2), IntraMill.NONE);
        mill.end(0);
        Check.same("bits(0) of none", mill.bits(0), IntraMill.NONE);
    }

    @Says("NONE if there is none.")
    static void theFarthestNumbers() {
        for (int i : new int[] {Integer.MIN_VALUE, 7999, 8000, 8001, Integer.MAX_VALUE}) {
            Check.same("bits(" + i + ")", eight().bits(i), IntraMill.NONE);
        }
    }
}
