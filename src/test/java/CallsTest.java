@Part(name = "What it is", from = "packed by the best direction of each block.", to = "## The public face")
public final class CallsTest {
    public static void main(String[] args) {
        Check.run(CallsTest.class);
    }

    private static IntraMill behind511Calls() {
        IntraMill mill = Made.flat(1, 1, 128);
        for (int call = 6; call <= 511; call++) {
            mill.feed(call);
        }
        return mill;
    }

    @Says("An object is used for at most 512 calls after it has been made; what later calls answer is free.")
    static void the512thCallIsAnsweredStill() {
        Check.same("feed(9)", behind511Calls().feed(9), 4 * 507);
        Check.same("bits(2023)", behind511Calls().bits(2023), 255);
        Check.same("unpack()", behind511Calls().unpack(), -1);
        Check.same("pack(20, false)", behind511Calls().pack(20, false), 2);
        Check.same("pixel(3, 3)", behind511Calls().pixel(3, 3), 128);
        Check.same("foretold(0, 2, 3, 3)", behind511Calls().foretold(0, 2, 3, 3), 128);
        Check.same("begin(9, 1)", Check.thrown(behind511Calls(), mill -> mill.begin(9, 1)),
                IllegalArgumentException.class.getName());
    }
}
