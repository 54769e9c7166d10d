/** The examples of README.md, line by line. */
@Part(file = "README.md", name = "README: Use", from = "and take the bytes. ```java", to = "| call | what it does |")
public final class ReadmeTest {
    public static void main(String[] args) {
        Check.run(ReadmeTest.class);
    }

    @Says("IntraMill mill = new IntraMill(); "
            + "mill.begin(2, 1); // two blocks across, one down, all 0 "
            + "for (int y = 0; y < 4; y++) { "
            + "mill.put(0, y, 0x80808080); // four pixels of line y, from x = 0 on "
            + "mill.put(1, y, 0x8c8c8c8c); // and from x = 4 on } "
            + "mill.pack(20, true); // 4, the bytes of the bits; QP 20, smoothed "
            + "mill.bits(0); // 80, which is 0x50 "
            + "mill.bits(4); // -1, which is NONE "
            + "mill.pixel(3, 0); // 131: the picture is what comes back now "
            + "mill.pixel(4, 0); // 136 "
            + "mill.block(1, IntraMill.NONE); // 1, the mode of block 1 "
            + "mill.block(1, 0); // 7, its coefficient 0")
    static void packing() {
        IntraMill mill = new IntraMill();
        mill.begin(2, 1);
        for (int y = 0; y < 4; y++) {
            mill.put(0, y, 0x80808080);
            mill.put(1, y, 0x8c8c8c8c);
        }
        Check.same("pack(20, true)", mill.pack(20, true), 4);
        Check.same("bits(0)", mill.bits(0), 80);
        Check.same("bits(4)", mill.bits(4), -1);
        Check.same("pixel(3, 0)", mill.pixel(3, 0), 131);
        Check.same("pixel(4, 0)", mill.pixel(4, 0), 136);
        Check.same("block(1, NONE)", mill.block(1, IntraMill.NONE), 1);
        Check.same("block(1, 0)", mill.block(1, 0), 7);
    }

    @Says("To unpack one: feed the bytes four at a time, end them where they end, unpack, and look at the pixels. "
            + "What does not keep to the form is refused with the kind and the place of the first fault. ```java "
            + "IntraMill other = new IntraMill(); "
            + "other.feed(0x50af151c); // 4, the bytes that are there now "
            + "other.end(3); // the last one is taken away "
            + "other.unpack(); // -1: a number is not all there "
            + "other.place(); // 24, the bit where it begins "
            + "other.end(0); // no bits "
            + "other.feed(0x50af151c); // 4 "
            + "other.unpack(); // 0: no fault "
            + "other.place(); // -1 "
            + "other.about(0); // 2 blocks across "
            + "other.pixel(4, 0); // 136")
    static void unpacking() {
        IntraMill other = new IntraMill();
        Check.same("feed(0x50af151c)", other.feed(0x50af151c), 4);
        other.end(3);
        Check.same("unpack()", other.unpack(), -1);
        Check.same("place()", other.place(), 24);
        other.end(0);
        Check.same("feed(0x50af151c)", other.feed(0x50af151c), 4);
        Check.same("unpack()", other.unpack(), 0);
        Check.same("place()", other.place(), -1);
        Check.same("about(0)", other.about(0), 2);
        Check.same("pixel(4, 0)", other.pixel(4, 0), 136);
    }
}
