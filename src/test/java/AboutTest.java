/** Promises 12 and 14: block and about. */
public final class AboutTest {
    public static void main(String[] args) {
        blockOfWhatWasPacked();
        blockOfWhatWasUnpacked();
        blockRefuses();
        aboutAnswers();
        aboutRefuses();
        Check.done();
    }

    private static void blockOfWhatWasPacked() {
        IntraMill mill = new IntraMill();
        Check.same("mode of none", mill.block(0, IntraMill.NONE), IntraMill.NONE);
        for (int i = 0; i < 16; i++) {
            Check.same("coefficient of none", mill.block(0, i), 0);
        }
        mill.pack(0, false);
        Check.same("mode", mill.block(0, IntraMill.NONE), 2);
        Check.same("128 below: 2048 13107 and 10922, by 32768", mill.block(0, 0), -(2048 * 13107 + 10922) / 32768);
        mill.put(0, 0, -1);
        Check.same("put leaves it", mill.block(0, IntraMill.NONE), 2);
        mill.begin(2, 1);
        Check.same("begin does not", mill.block(0, IntraMill.NONE), IntraMill.NONE);
        Check.same("nor the coefficients", mill.block(0, 0), 0);
        Check.same("nor of the second", mill.block(1, IntraMill.NONE), IntraMill.NONE);
    }

    private static void blockOfWhatWasUnpacked() {
        IntraMill mill = new IntraMill();
        mill.begin(8, 8);
        BitText.head(1, 3, 7, 0).plain().raw("0000").u(2).u(3).s(9).u(0).s(-8).raw("0010").u(0).into(mill);
        Check.same("unpack", mill.unpack(), 0);
        Check.same("modes and coefficients", Sight.blocks(mill),
                "2 0 0 0 0 0 0 0 0 0 0 0 0 0 0 0 0 \n0 0 0 0 9 -8 0 0 0 0 0 0 0 0 0 0 0 \n3 "
                + "0 ".repeat(16) + "\n");
        Check.noArgument("block(3, 0)", mill, () -> mill.block(3, 0));
        mill.end(1);
        mill.unpack();
        Check.same("a fault leaves it", mill.block(1, 3), 9);
    }

    private static void blockRefuses() {
        IntraMill mill = new IntraMill();
        mill.begin(3, 2);
        mill.pack(20, true);
        for (int wrong : new int[] {Integer.MIN_VALUE, -2, -1, 6, 63, 64, Integer.MAX_VALUE}) {
            Check.noArgument("block(" + wrong + ", 0)", mill, () -> mill.block(wrong, 0));
        }
        for (int wrong : new int[] {Integer.MIN_VALUE, -2, 16, 17, Integer.MAX_VALUE}) {
            Check.noArgument("block(5, " + wrong + ")", mill, () -> mill.block(5, wrong));
        }
        Check.same("block(5, 15)", mill.block(5, 15), 0);
    }

    private static void about(IntraMill mill, String name, int... due) {
        for (int what = 0; what < 5; what++) {
            Check.same(name + ": about(" + what + ")", mill.about(what), due[what]);
        }
    }

    private static void aboutAnswers() {
        IntraMill mill = new IntraMill();
        about(mill, "new", 1, 1, 0, 0, 0);
        mill.begin(3, 5);
        about(mill, "begun", 3, 5, 0, 0, 0);
        int bytes = mill.pack(42, true);
        about(mill, "packed", 3, 5, 42, 1, bytes);
        mill.feed(1);
        about(mill, "fed", 3, 5, 42, 1, bytes + 4);
        mill.put(2, 19, 5);
        about(mill, "put", 3, 5, 42, 1, bytes + 4);
        mill.unpack();
        about(mill, "a fault", 3, 5, 42, 1, bytes + 4);
        bytes = mill.pack(41, false);
        about(mill, "packed again", 3, 5, 41, 0, bytes);
        BitText.head(2, 1, 17, 1).plain().plain().into(mill);
        about(mill, "not yet unpacked", 3, 5, 41, 0, 3);
        mill.unpack();
        about(mill, "unpacked", 2, 1, 17, 1, 3);
        mill.begin(8, 7);
        about(mill, "begun again", 8, 7, 0, 0, 3);
    }

    private static void aboutRefuses() {
        IntraMill mill = new IntraMill();
        mill.pack(20, true);
        for (int wrong : new int[] {Integer.MIN_VALUE, -2, -1, 5, 6, Integer.MAX_VALUE}) {
            Check.noArgument("about(" + wrong + ")", mill, () -> mill.about(wrong));
        }
    }
}
