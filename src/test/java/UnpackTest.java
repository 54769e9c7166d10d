/** Promises 6 and 7: what is unpacked, and each fault with its bit. */
public final class UnpackTest {
    public static void main(String[] args) {
        plain();
        coefficients();
        allModes();
        clipped();
        smoothed();
        faultOne();
        faultTwo();
        faultThree();
        faultsFourToSix();
        faultSeven();
        allThatIsPackedIsUnpacked();
        Check.done();
    }

    private static IntraMill good(BitText bits) {
        IntraMill mill = new IntraMill();
        bits.into(mill);
        Check.same("unpack", mill.unpack(), 0);
        Check.same("place", mill.place(), IntraMill.NONE);
        return mill;
    }

    /** The fault is answered with its bit, and all but place() is as before. */
    private static void bad(String name, String bits, int fault, int place) {
        IntraMill mill = new IntraMill();
        BitText.head(2, 1, 33, 1).plain().raw("1").u(1).u(2).s(-3).into(mill);
        mill.unpack();
        BitText.load(mill, bits);
        String before = Sight.of(mill);
        Check.same(name + ": unpack", mill.unpack(), -fault);
        Check.same(name + ": place", mill.place(), place);
        Check.same(name + ": the object", Sight.of(mill), before.replace("place -1", "place " + place));
        BitText.head(1, 1, 0, 0).plain().into(mill);
        Check.same(name + ": then unpack", mill.unpack(), 0);
        Check.same(name + ": then place", mill.place(), IntraMill.NONE);
        Check.same(name + ": then across", mill.about(0), 1);
    }

    private static void bad(String name, BitText bits, int fault, int place) {
        bad(name, bits.filled(), fault, place);
    }

    private static void plain() {
        BitText bits = BitText.head(3, 2, 51, 0);
        for (int k = 0; k < 6; k++) {
            bits.plain();
        }
        IntraMill mill = good(bits);
        Check.same("pixels", Sight.pixels(mill), ("128 ".repeat(12) + "\n").repeat(8));
        Check.same("across", mill.about(0), 3);
        Check.same("down", mill.about(1), 2);
        Check.same("QP", mill.about(2), 51);
        Check.same("smoothed", mill.about(3), 0);
        mill = good(BitText.head(8, 8, 0, 1).raw("11".repeat(64)));
        Check.same("pixel(31, 31)", mill.pixel(31, 31), 128);
        Check.same("QP", mill.about(2), 0);
        Check.same("smoothed", mill.about(3), 1);
    }

    /** c(0, 1) alone, 4 at QP 12: 4 13 4 = 208 a row; columns 208, 104, -104, -208, and 32, by 64. */
    private static void coefficients() {
        IntraMill mill = good(BitText.head(1, 1, 12, 0).raw("1").u(1).u(2).s(4));
        Check.same("coefficient 2", mill.block(0, 2), 4);
        Check.same("pixels", Sight.pixels(mill),
                "131 131 131 131 \n130 130 130 130 \n126 126 126 126 \n125 125 125 125 \n");
        mill = good(BitText.head(1, 1, 12, 0).raw("1").u(1).u(1).s(-4));
        Check.same("coefficient 1", mill.block(0, 1), -4);
        Check.same("pixels", Sight.pixels(mill), "125 126 130 131 \n".repeat(4));
        BitText all = BitText.head(1, 1, 6, 0).raw("1").u(16);
        for (int i = 0; i < 16; i++) {
            all.u(0).s(i % 2 == 0 ? i + 1 : -i - 1);
        }
        mill = good(all);
        for (int i = 0; i < 16; i++) {
            Check.same("coefficient " + i, mill.block(0, i), i % 2 == 0 ? i + 1 : -i - 1);
        }
        mill = good(BitText.head(1, 1, 0, 0).raw("1").u(1).u(15).s(2048));
        Check.same("the last, as great as may be", mill.block(0, 15), 2048);
        mill = good(BitText.head(1, 1, 0, 0).raw("1").u(2).u(3).s(-2048).u(11).s(1));
        Check.same("as small as may be", mill.block(0, 3), -2048);
        Check.same("eleven zeros behind", mill.block(0, 15), 1);
    }

    private static void allModes() {
        for (int mode = 0; mode < 9; mode++) {
            BitText bits = BitText.head(2, 2, 20, 0).plain().plain().plain();
            if (mode == 2) {
                bits.raw("1");
            } else {
                int told = mode > 2 ? mode - 1 : mode;
                bits.raw("0").raw(Integer.toBinaryString(8 + told).substring(1));
            }
            IntraMill mill = good(bits.u(0));
            Check.same("mode", mill.block(3, -1), mode);
        }
        BitText bits = BitText.head(2, 2, 20, 0).plain().raw("0111").u(0).raw("0110").u(0).raw("1").u(0);
        Check.same("the likely one of 8 and 7", good(bits).block(3, -1), 7);
        bits = BitText.head(2, 2, 20, 0).plain().raw("0111").u(0).raw("0110").u(0).raw("0111").u(0);
        Check.same("8 where 7 is likely", good(bits).block(3, -1), 8);
        bits = BitText.head(2, 2, 20, 0).plain().raw("0111").u(0).raw("0110").u(0).raw("0110").u(0);
        Check.same("6 where 7 is likely", good(bits).block(3, -1), 6);
    }

    private static void clipped() {
        IntraMill mill = good(BitText.head(1, 1, 51, 0).raw("1").u(1).u(0).s(2048));
        Check.same("pixels", Sight.pixels(mill), "255 255 255 255 \n".repeat(4));
        mill = good(BitText.head(1, 1, 51, 0).raw("1").u(1).u(0).s(-2048));
        Check.same("pixels", Sight.pixels(mill), "0 0 0 0 \n".repeat(4));
    }

    /** A coefficient 0 of -1 and of -5 at QP 24, where t is 4, makes 2 and 12 less. */
    private static void smoothed() {
        IntraMill mill = good(BitText.head(2, 1, 24, 1).plain().raw("1").u(1).u(0).s(-1));
        Check.same("d is (-8 + 2 + 4) / 8, rounded down, -1", Sight.pixels(mill),
                "128 128 128 127 127 126 126 126 \n".repeat(4));
        Check.same("whether it was smoothed", mill.about(3), 1);
        mill = good(BitText.head(2, 1, 24, 0).plain().raw("1").u(1).u(0).s(-5));
        Check.same("not smoothed", Sight.pixels(mill), "128 128 128 128 116 116 116 116 \n".repeat(4));
        mill = good(BitText.head(2, 2, 24, 1).plain().raw("1").u(1).u(0).s(-5).plain().plain());
        String above = "128 128 128 124 120 116 116 116 \n";
        String below = "128 128 128 126 124 122 122 122 \n";
        Check.same("level edges come last, and see the upright ones done", Sight.pixels(mill), above.repeat(3)
                + "128 128 128 125 122 118 118 118 \n128 128 128 125 122 120 120 120 \n" + below.repeat(3));
    }

    private static void faultOne() {
        bad("no bits", "", 1, 0);
        bad("zeros alone", "00000000", 1, 0);
        bad("sixteen zeros", "0".repeat(16) + "1".repeat(24), 1, 0);
        bad("fifteen zeros are a number, too great", "0".repeat(15) + "1".repeat(17), 2, 0);
        bad("a number cut behind its one", "00001111", 1, 0);
        bad("the second number", "10000011", 1, 1);
        bad("QP", "11000000", 1, 2);
        bad("QP cut", "11000010", 1, 2);
        String head = BitText.head(1, 1, 3, 0).filled();
        bad("a head of eight bits, and no mode", head, 1, 8);
        bad("three bits are not there", new BitText().u(0).u(1).u(0).raw("1").raw("01"), 1, 7);
        bad("no three bits at all", BitText.head(1, 2, 0, 0).raw("00").filled(), 1, 7);
        bad("a count", new BitText().u(0).u(0).u(0).raw("0").raw("1").raw("000"), 1, 5);
        bad("zeros before", new BitText().u(0).u(0).u(0).raw("0").raw("1").u(1), 1, 8);
        bad("a coefficient", BitText.head(1, 1, 3, 0).raw("1").u(1).u(0).raw("000"), 1, 13);
        BitText long16 = BitText.head(1, 1, 3, 0).raw("1").u(1).u(0).raw("0".repeat(16)).raw("1".repeat(20));
        bad("a coefficient with sixteen zeros", long16, 1, 13);
        bad("the second block", BitText.head(2, 1, 3, 0).plain().raw("1000"), 1, 13);
    }

    private static void faultTwo() {
        bad("9 across", new BitText().u(8).u(0).u(0).raw("0").plain(), 2, 0);
        bad("9 down", new BitText().u(7).u(8).u(0).raw("0").plain(), 2, 7);
        bad("QP 52", new BitText().u(0).u(7).u(52).raw("0").plain(), 2, 8);
        bad("9 across, and then nothing", "00010010", 2, 0);
        bad("the greatest number", new BitText().u(0).u(0).u(65534), 2, 2);
    }

    private static void faultThree() {
        int at = BitText.head(2, 2, 20, 1).length();
        String[] wrong = {"01345678", "034567", "14568"};
        for (int block = 0; block < 3; block++) {
            for (char mode : wrong[block].toCharArray()) {
                BitText bits = BitText.head(2, 2, 20, 1);
                for (int k = 0; k < block; k++) {
                    bits.plain();
                }
                int told = mode - '0' > 2 ? mode - '0' - 1 : mode - '0';
                bits.raw("0").raw(Integer.toBinaryString(8 + told).substring(1));
                bad("block " + block + " mode " + mode, bits, 3, at + 2 * block + 1);
            }
        }
    }

    private static void faultsFourToSix() {
        int at = BitText.head(1, 1, 3, 0).length() + 1;
        bad("17 coefficients", BitText.head(1, 1, 3, 0).raw("1").u(17), 4, at);
        bad("the greatest number of them", BitText.head(1, 1, 3, 0).raw("1").u(65534), 4, at);
        bad("16 zeros", BitText.head(1, 1, 3, 0).raw("1").u(1).u(16).s(1), 5, at + 3);
        bad("0 and 15 zeros", BitText.head(1, 1, 3, 0).raw("1").u(2).u(0).s(1).u(15).s(1), 5, at + 3 + 4);
        bad("none behind the 16th", BitText.head(1, 1, 3, 0).raw("1").u(2).u(15).s(1).u(0).s(1), 5, at + 3 + 9 + 3);
        bad("a 0", BitText.head(1, 1, 3, 0).raw("1").u(1).u(0).s(0), 6, at + 4);
        bad("2049", BitText.head(1, 1, 3, 0).raw("1").u(1).u(0).s(2049), 6, at + 4);
        bad("-2049", BitText.head(1, 1, 3, 0).raw("1").u(1).u(0).s(-2049), 6, at + 4);
        bad("the greatest", BitText.head(1, 1, 3, 0).raw("1").u(1).u(0).u(65534), 6, at + 4);
        bad("a 0 comes before the zeros behind it", BitText.head(1, 1, 3, 0).raw("1").u(2).u(0).s(0).u(16), 6, at + 4);
    }

    private static void faultSeven() {
        String whole = BitText.head(1, 1, 3, 0).plain().raw("000000").filled();
        bad("eight bits more", whole + "00000000", 7, 10);
        bad("a one among them", whole.substring(0, 15) + "1", 7, 10);
        bad("a one at once", whole.substring(0, 10) + "100000", 7, 10);
        String six = new BitText().u(0).u(0).u(0).raw("0").plain().filled();
        bad("ten bits left", six + "00000000", 7, 6);
        String eight = new BitText().u(0).u(0).u(2).raw("0").plain().filled();
        good(new BitText().raw(eight));
        Check.same("it is all of one byte", eight.length(), 8);
        bad("eight bits left", eight + "00000000", 7, 8);
        bad("eight ones left", eight + "11111111", 7, 8);
        String nine = new BitText().u(0).u(2).u(0).raw("0").plain().plain().plain().filled();
        Check.same("seven or fewer are left", good(new BitText().raw(nine)).about(1), 3);
        bad("many bits left", "1".repeat(7) + "0" + "0".repeat(1600), 7, 6);
    }

    private static void allThatIsPackedIsUnpacked() {
        for (int qp = 0; qp < 52; qp++) {
            IntraMill mill = new IntraMill();
            mill.begin(3, 3);
            for (int y = 0; y < 12; y++) {
                for (int block = 0; block < 3; block++) {
                    mill.put(block, y, (block * 71 + y * 37 + 11) * 0x0f1d2b39);
                }
            }
            mill.pack(qp, qp % 2 == 0);
            String before = Sight.of(mill);
            String bits = BitText.of(mill);
            IntraMill other = new IntraMill();
            BitText.load(other, bits);
            Check.same("unpack", other.unpack(), 0);
            Check.same("QP " + qp, Sight.of(other), before);
        }
    }
}
