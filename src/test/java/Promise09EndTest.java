@Part(name = "Promise 9: end", from = "`void end(int n) throws IllegalArgumentException`:", to = "## Promise 10")
public final class Promise09EndTest {
    public static void main(String[] args) {
        Check.run(Promise09EndTest.class);
    }

    private static IntraMill eight() {
        return Made.fed(0x01ff8000, 0xfe7f0203);
    }

    private static IntraMill ended(int n) {
        IntraMill mill = eight();
        mill.end(n);
        return mill;
    }

    @Says("The bits keep their first n bytes.")
    static void allOfThem() {
        Check.same("bytes", Sight.bytes(() -> ended(8)), "1 255 128 0 254 127 2 3 ");
    }

    @Says("The bits keep their first n bytes.")
    static void allButOne() {
        Check.same("bytes", Sight.bytes(() -> ended(7)), "1 255 128 0 254 127 2 ");
        Check.same("about(4)", ended(7).about(4), 7);
    }

    @Says("The bits keep their first n bytes.")
    static void one() {
        Check.same("bytes", Sight.bytes(() -> ended(1)), "1 ");
    }

    @Says("The bits keep their first n bytes.")
    static void none() {
        Check.same("about(4)", ended(0).about(4), 0);
        Check.same("bits(0)", ended(0).bits(0), IntraMill.NONE);
    }

    @Says("The bits keep their first n bytes.")
    static void noneOfNone() {
        IntraMill mill = new IntraMill();
        mill.end(0);
        Check.same("about(4)", mill.about(4), 0);
    }

    @Says("The bits keep their first n bytes.")
    static void noMoreIsUnpacked() {
        IntraMill mill = BitText.fed(BitText.head(1, 1, 3, 0).plain(1).filled() + "10101010").get();
        Check.same("unpack() of three bytes", mill.unpack(), -7);
        mill.end(2);
        Check.same("unpack() of two", mill.unpack(), 0);
        mill.end(1);
        Check.same("unpack() of one", mill.unpack(), -1);
        Check.same("place()", mill.place(), 8);
    }

    @Says("The bits keep their first n bytes.")
    static void allElseStays() {
        IntraMill mill = Made.used();
        mill.end(1);
        Check.same("pixels", Sight.pixels(() -> mill), Sight.pixels(Made::used));
        Check.same("blocks", Sight.blocks(() -> mill), Sight.blocks(Made::used));
        Check.same("QP", mill.about(2), 17);
        Check.same("place()", mill.place(), 1);
    }

    @Says("IllegalArgumentException: there are not so many,")
    static void oneMoreThanThereAre() {
        Check.refused("end(9) of eight", Promise09EndTest::eight, mill -> mill.end(9));
        Check.refused("end(1) of none", IntraMill::new, mill -> mill.end(1));
    }

    @Says("IllegalArgumentException: there are not so many,")
    static void whatWasCutOffIsNotThere() {
        Check.refused("end(4) of three", () -> ended(3), mill -> mill.end(4));
        Check.refused("end(8) of three", () -> ended(3), mill -> mill.end(8));
    }

    @Says("IllegalArgumentException: there are not so many,")
    static void farMoreThanThereAre() {
        Check.refused("end(8000)", Promise09EndTest::eight, mill -> mill.end(8000));
        Check.refused("end(8001)", Promise09EndTest::eight, mill -> mill.end(8001));
        Check.refused("end(MAX)", Promise09EndTest::eight, mill -> mill.end(Integer.MAX_VALUE));
    }

    @Says("or n is below 0.")
    static void oneBelowZero() {
        Check.refused("end(-1) of eight", Promise09EndTest::eight, mill -> mill.end(-1));
        Check.refused("end(-1) of none", IntraMill::new, mill -> mill.end(-1));
    }

    @Says("or n is below 0.")
    static void farBelowZero() {
        Check.refused("end(MIN)", Promise09EndTest::eight, mill -> mill.end(Integer.MIN_VALUE));
        Check.refused("end(-8)", Promise09EndTest::eight, mill -> mill.end(-8));
    }
}
