import java.util.Arrays;

/** The first part of the document: what the class is for, seen from end to end. */
@Part(name = "What it is", from = "## What it is", to = "## The public face")
public final class WhatItIsTest {
    public static void main(String[] args) {
        Check.run(WhatItIsTest.class);
    }

    /** Slopes of many ways, 3 by 3 blocks. */
    private static IntraMill slopes() {
        IntraMill mill = Made.begun(3, 3).get();
        for (int y = 0; y < 12; y++) {
            for (int block = 0; block < 3; block++) {
                int first = 20 + 5 * y + 30 * block;
                mill.put(block, y, 0x01010101 * first + 0x0004080c * (1 + (y + block) % 3));
            }
        }
        return mill;
    }

    private static IntraMill packed(int qp, boolean smooth) {
        IntraMill mill = slopes();
        mill.pack(qp, smooth);
        return mill;
    }

    /** Another object that has the bits of one, unpacked. */
    private static IntraMill unpackedElsewhere(int qp, boolean smooth) {
        IntraMill other = BitText.fed(Sight.bits(() -> packed(qp, smooth))).get();
        Check.same("unpack()", other.unpack(), 0);
        return other;
    }

    private static int farthestOff(IntraMill from, IntraMill mill) {
        int most = 0;
        for (int y = 0; y < 12; y++) {
            for (int x = 0; x < 12; x++) {
                most = Math.max(most, Math.abs(from.pixel(x, y) - mill.pixel(x, y)));
            }
        }
        return most;
    }

    @Says("Pictures of grey packed by blocks that are foretold from their neighbours,")
    static void aPictureIsNearlyItselfAfterwards() {
        Check.same("QP 0: off by 2 at most", farthestOff(slopes(), unpackedElsewhere(0, false)) <= 2);
        Check.same("QP 20: off by 10 at most", farthestOff(slopes(), unpackedElsewhere(20, true)) <= 10);
    }

    @Says("after the ways of a public standard: nine directions,")
    static void thereAreNineModes() {
        IntraMill mill = slopes();
        for (int mode = 0; mode < 9; mode++) {
            Check.same("mode " + mode, mill.foretold(4, mode, 1, 1) >= 0);
        }
        Check.same("mode 9", Check.thrown(mill, one -> one.foretold(4, 9, 1, 1)),
                IllegalArgumentException.class.getName());
    }

    @Says("whole transforms,")
    static void whatIsUnpackedElsewhereIsTheSameInEachPixel() {
        for (int qp = 0; qp <= 51; qp++) {
            int now = qp;
            Check.same("QP " + qp, Sight.of(() -> unpackedElsewhere(now, now % 2 == 0)),
                    Sight.of(() -> packed(now, now % 2 == 0)));
        }
    }

    /** Of bits: the head 24, the first block 2, its row's and column's others 5 each, the 49 others 2 each: 194. */
    @Says("numbers of few bits;")
    static void aFlatPictureOf64BlocksTakes25Bytes() {
        int[] greys = new int[64];
        Arrays.fill(greys, 128);
        Check.same("pack(20, false)", Made.flat(8, 8, greys).pack(20, false), 25);
    }

    @Says("unpacked strictly,")
    static void withoutItsLastByteItIsRefused() {
        IntraMill mill = packed(12, false);
        mill.end(mill.about(4) - 1);
        Check.same("unpack()", mill.unpack(), -1);
        Check.same("place()", mill.place() >= 0);
    }

    @Says("with smoothed edges;")
    static void smoothingChangesPixelsAtEdgesAlone() {
        IntraMill plain = unpackedElsewhere(40, false);
        IntraMill smooth = unpackedElsewhere(40, true);
        int changed = 0;
        for (int y = 0; y < 12; y++) {
            for (int x = 0; x < 12; x++) {
                boolean differs = plain.pixel(x, y) != smooth.pixel(x, y);
                changed += differs ? 1 : 0;
                Check.same("only beside an edge", !differs || isBesideEdge(x) || isBesideEdge(y));
            }
        }
        Check.same("some are changed", changed > 0);
    }

    private static boolean isBesideEdge(int at) {
        return at == 3 || at == 4 || at == 7 || at == 8;
    }

    /** The first block goes on to the right by its lines, downwards by its columns. */
    @Says("packed by the best direction of each block.")
    static void linesGoOnByModeOneAndColumnsByModeZero() {
        IntraMill lines = Made.begun(2, 1).get();
        IntraMill columns = Made.begun(1, 2).get();
        for (int y = 0; y < 4; y++) {
            lines.put(0, y, 0x01010101 * (60 + 40 * y));
            lines.put(1, y, 0x01010101 * (60 + 40 * y));
            columns.put(0, y, 0x3c648cb4);
            columns.put(0, y + 4, 0x3c648cb4);
        }
        lines.pack(4, false);
        columns.pack(4, false);
        Check.same("lines", lines.block(1, IntraMill.NONE), 1);
        Check.same("columns", columns.block(1, IntraMill.NONE), 0);
    }

    private static IntraMill behind511Calls() {
        IntraMill mill = Made.flat(1, 1, 128);
        for (int call = 6; call <= 511; call++) {
            mill.feed(call);
        }
        return mill;
    }

    @Says("An object is used for at most 512 calls after it has been made; what later calls answer is free.")
    static void the512thCallIsAnsweredStill() {
        Check.same("feed(9)", behind511Calls().feed(9), 4 * 507);
        Check.same("bits(2023)", behind511Calls().bits(2023), 255);
        Check.same("unpack()", behind511Calls().unpack(), -1);
        Check.same("pack(20, false)", behind511Calls().pack(20, false), 2);
        Check.same("pixel(3, 3)", behind511Calls().pixel(3, 3), 128);
        Check.same("foretold(0, 2, 3, 3)", behind511Calls().foretold(0, 2, 3, 3), 128);
        Check.same("begin(9, 1)", Check.thrown(behind511Calls(), mill -> mill.begin(9, 1)),
                IllegalArgumentException.class.getName());
    }
}
