@Part(name = "Promise 1: A new object", from = "`IntraMill()`:", to = "## Promise 2")
public final class Promise01NewObjectTest {
    public static void main(String[] args) {
        Check.run(Promise01NewObjectTest.class);
    }

    @Says("A picture of one block")
    static void thePictureEndsBehindOneBlock() {
        IntraMill mill = new IntraMill();
        Check.same("about(0)", mill.about(0), 1);
        Check.same("about(1)", mill.about(1), 1);
        Check.same("pixel(3, 3)", mill.pixel(3, 3), 0);
        Check.same("pixel(4, 0)", mill.pixel(4, 0), IntraMill.NONE);
        Check.same("pixel(0, 4)", mill.pixel(0, 4), IntraMill.NONE);
    }

    @Says("A picture of one block")
    static void thereIsNoSecondBlock() {
        Check.refused("put(1, 0)", IntraMill::new, mill -> mill.put(1, 0, 0));
        Check.refused("put(0, 4)", IntraMill::new, mill -> mill.put(0, 4, 0));
        Check.refused("block(1, 0)", IntraMill::new, mill -> mill.block(1, 0));
        Check.refused("foretold(1, 2, 0, 0)", IntraMill::new, mill -> mill.foretold(1, 2, 0, 0));
    }

    @Says("A picture of one block")
    static void theBlockWasNotPackedYet() {
        Check.same("mode and coefficients", Sight.blocks(IntraMill::new), Made.noBlocks(1));
        Check.same("about(2)", new IntraMill().about(2), 0);
        Check.same("about(3)", new IntraMill().about(3), 0);
        Check.same("place()", new IntraMill().place(), IntraMill.NONE);
    }

    @Says("all 0;")
    static void allPixelsAreZero() {
        Check.same("pixels", Sight.pixels(IntraMill::new), "0 0 0 0 \n".repeat(4));
    }

    @Says("all 0;")
    static void anotherObjectChangesNothing() {
        IntraMill other = Made.white(1, 1);
        Check.same("the other", other.pixel(0, 0), 255);
        Check.same("pixels", Sight.pixels(IntraMill::new), "0 0 0 0 \n".repeat(4));
    }

    @Says("no bits.")
    static void thereAreNoBytes() {
        Check.same("about(4)", new IntraMill().about(4), 0);
        Check.same("bits(0)", new IntraMill().bits(0), IntraMill.NONE);
        Check.same("the first feed()", new IntraMill().feed(-1), 4);
    }

    @Says("no bits.")
    static void thereIsNoByteToKeepOrAlter() {
        Check.refused("end(1)", IntraMill::new, mill -> mill.end(1));
        Check.refused("alter(0, 0)", IntraMill::new, mill -> mill.alter(0, 0));
    }

    @Says("no bits.")
    static void thereIsNothingToUnpack() {
        IntraMill mill = new IntraMill();
        Check.same("unpack()", mill.unpack(), -1);
        Check.same("place()", mill.place(), 0);
    }
}
