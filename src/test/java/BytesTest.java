/** Promises 8 to 11: feed, end, alter, bits. */
public final class BytesTest {
    public static void main(String[] args) {
        feedAddsFour();
        feedRefuses();
        endKeepsTheFirst();
        alterChangesOne();
        bitsAnswersNone();
        thePictureStays();
        Check.done();
    }

    private static IntraMill fed() {
        IntraMill mill = new IntraMill();
        mill.begin(2, 1);
        mill.feed(0x01ff8000);
        mill.feed(0xfe7f0203);
        return mill;
    }

    private static void feedAddsFour() {
        IntraMill mill = new IntraMill();
        Check.same("feed", mill.feed(0x01ff8000), 4);
        Check.same("feed", mill.feed(0xfe7f0203), 8);
        Check.same("bytes", Sight.bytes(mill), "1 255 128 0 254 127 2 3 ");
        mill.end(3);
        Check.same("feed behind three", mill.feed(-2), 7);
        Check.same("bytes", Sight.bytes(mill), "1 255 128 255 255 255 254 ");
        Check.same("about(4)", mill.about(4), 7);
    }

    private static void feedRefuses() {
        IntraMill mill = new IntraMill();
        for (int k = 1; k <= 2000; k++) {
            Check.same("feed", mill.feed(k), 4 * k);
        }
        Check.refused("feed above 8000", mill, IllegalStateException.class, () -> mill.feed(1));
        for (int n = 7999; n > 7996; n--) {
            mill.end(n);
            Check.refused("feed behind " + n, mill, IllegalStateException.class, () -> mill.feed(1));
        }
        mill.end(7996);
        Check.same("feed", mill.feed(0x09080706), 8000);
        Check.same("the last", mill.bits(7999), 6);
        Check.same("behind the last", mill.bits(8000), IntraMill.NONE);
    }

    private static void endKeepsTheFirst() {
        IntraMill mill = fed();
        mill.end(8);
        Check.same("bytes", Sight.bytes(mill), "1 255 128 0 254 127 2 3 ");
        mill.end(5);
        Check.same("bytes", Sight.bytes(mill), "1 255 128 0 254 ");
        for (int wrong : new int[] {Integer.MIN_VALUE, -1, 6, 8, 8000, Integer.MAX_VALUE}) {
            Check.noArgument("end(" + wrong + ")", mill, () -> mill.end(wrong));
        }
        mill.end(0);
        Check.same("no bytes", mill.about(4), 0);
        Check.noArgument("end(1)", mill, () -> mill.end(1));
        mill.end(0);
    }

    private static void alterChangesOne() {
        IntraMill mill = fed();
        Check.same("alter(1, 7)", mill.alter(1, 7), 255);
        Check.same("alter(1, -1)", mill.alter(1, -1), 7);
        Check.same("alter(1, 0x1234)", mill.alter(1, 0x1234), 255);
        Check.same("alter(0, 200)", mill.alter(0, 200), 1);
        Check.same("alter(7, MIN)", mill.alter(7, Integer.MIN_VALUE), 3);
        Check.same("bytes", Sight.bytes(mill), "200 52 128 0 254 127 2 0 ");
        for (int wrong : new int[] {Integer.MIN_VALUE, -1, 8, 9, 7999, 8000, Integer.MAX_VALUE}) {
            Check.noArgument("alter(" + wrong + ")", mill, () -> mill.alter(wrong, 1));
        }
        mill.end(0);
        Check.noArgument("alter(0) of none", mill, () -> mill.alter(0, 1));
        BitText.head(1, 1, 3, 0).plain().into(mill);
        mill.alter(1, 0);
        Check.same("what is altered is unpacked: a mode that is not there", mill.unpack(), -3);
        mill.alter(1, 0xc0);
        Check.same("altered again", mill.unpack(), 0);
    }

    private static void bitsAnswersNone() {
        IntraMill mill = fed();
        int[] due = {1, 255, 128, 0, 254, 127, 2, 3};
        for (int i = 0; i < 8; i++) {
            Check.same("bits(" + i + ")", mill.bits(i), due[i]);
        }
        for (int i : new int[] {Integer.MIN_VALUE, -1, 8, 7999, 8000, Integer.MAX_VALUE}) {
            Check.same("bits(" + i + ")", mill.bits(i), IntraMill.NONE);
        }
        mill.end(2);
        Check.same("bits(2) behind end(2)", mill.bits(2), IntraMill.NONE);
        Check.same("bits(0) of a new object", new IntraMill().bits(0), IntraMill.NONE);
    }

    private static void thePictureStays() {
        IntraMill mill = new IntraMill();
        mill.begin(2, 1);
        mill.put(1, 1, 0x10203040);
        mill.pack(9, false);
        String before = Sight.pixels(mill) + Sight.blocks(mill) + mill.about(2) + mill.place();
        mill.feed(77);
        mill.alter(0, 3);
        mill.end(1);
        Check.same("all but the bits", Sight.pixels(mill) + Sight.blocks(mill) + mill.about(2) + mill.place(), before);
    }
}
