@Part(name = "Promise 4: pixel", from = "`int pixel(int x, int y)`:", to = "## Promise 5")
public final class Promise04PixelTest {
    public static void main(String[] args) {
        Check.run(Promise04PixelTest.class);
    }

    private static void none(String picture, IntraMill mill, int x, int y) {
        Check.same(picture + ": pixel(" + x + ", " + y + ")", mill.pixel(x, y), IntraMill.NONE);
    }

    @Says("A pixel;")
    static void theFourCorners() {
        IntraMill mill = Made.begun(8, 8).get();
        mill.put(0, 0, 0x01000000);
        mill.put(7, 0, 0x00000002);
        mill.put(0, 31, 0x03000000);
        mill.put(7, 31, 0x00000004);
        Check.same("pixel(0, 0)", mill.pixel(0, 0), 1);
        Check.same("pixel(31, 0)", mill.pixel(31, 0), 2);
        Check.same("pixel(0, 31)", mill.pixel(0, 31), 3);
        Check.same("pixel(31, 31)", mill.pixel(31, 31), 4);
    }

    @Says("A pixel;")
    static void nothingChanges() {
        Check.same("the object", Sight.of(() -> {
            IntraMill mill = Made.used();
            mill.pixel(7, 7);
            mill.pixel(8, 8);
            return mill;
        }), Sight.of(Made::used));
    }

    @Says("NONE if there is none such.")
    static void leftOfTheFirst() {
        none("2 by 2", Made.used(), -1, 0);
        none("2 by 2", Made.used(), -1, 4);
    }

    @Says("NONE if there is none such.")
    static void rightOfTheLast() {
        none("2 by 2", Made.used(), 8, 0);
        none("2 by 2", Made.used(), 9, 7);
        none("1 by 8", Made.begun(1, 8).get(), 4, 31);
        none("8 by 8", Made.begun(8, 8).get(), 32, 0);
        none("8 by 8", Made.begun(8, 8).get(), 32, 31);
    }

    @Says("NONE if there is none such.")
    static void aboveTheFirst() {
        none("2 by 2", Made.used(), 0, -1);
        none("2 by 2", Made.used(), 7, -1);
    }

    @Says("NONE if there is none such.")
    static void belowTheLast() {
        none("2 by 2", Made.used(), 0, 8);
        none("2 by 2", Made.used(), 7, 9);
        none("8 by 1", Made.begun(8, 1).get(), 31, 4);
        none("8 by 8", Made.begun(8, 8).get(), 0, 32);
        none("8 by 8", Made.begun(8, 8).get(), 31, 32);
    }

    @Says("NONE if there is none such.")
    static void whereALargerPictureHadOne() {
        IntraMill mill = Made.white(3, 3);
        mill.begin(2, 2);
        none("begun smaller", mill, 8, 0);
        none("begun smaller", mill, 0, 8);
        BitText.load(mill, BitText.head(1, 1, 0, 0).plain(1).filled());
        mill.unpack();
        none("unpacked smaller", mill, 4, 0);
        none("unpacked smaller", mill, 0, 4);
    }

    @Says("NONE if there is none such.")
    static void theFarthestNumbers() {
        for (int far : new int[] {Integer.MIN_VALUE, Integer.MAX_VALUE, 1 << 30, 1 << 27, 1 << 16}) {
            none("2 by 2", Made.used(), far, 0);
            none("2 by 2", Made.used(), 0, far);
            none("2 by 2", Made.used(), far, far);
        }
    }
}
