import java.util.function.Supplier;

/** Bits written by hand, as a text of 0 and 1. */
final class BitText {
    private final StringBuilder text = new StringBuilder();

    /** A head: blocks across and down, QP, and whether it is smoothed. */
    static BitText head(int across, int down, int qp, int smooth) {
        return new BitText().u(across - 1).u(down - 1).u(qp).raw(smooth == 1 ? "1" : "0");
    }

    BitText raw(String zerosAndOnes) {
        text.append(zerosAndOnes);
        return this;
    }

    BitText u(int number) {
        String digits = Integer.toBinaryString(number + 1);
        return raw("0".repeat(digits.length() - 1)).raw(digits);
    }

    BitText s(int number) {
        return u(number > 0 ? 2 * number - 1 : -2 * number);
    }

    /** A mode that is not the likely one. */
    BitText mode(int mode, int likely) {
        return raw("0").raw(Integer.toBinaryString(8 + (mode > likely ? mode - 1 : mode)).substring(1));
    }

    /** Blocks of the likely mode without coefficients. */
    BitText plain(int blocks) {
        return raw("11".repeat(blocks));
    }

    /** The coefficients of a block, as many of them as are told; those behind are 0. */
    BitText levels(int... levels) {
        int count = 0;
        for (int level : levels) {
            count += level == 0 ? 0 : 1;
        }
        u(count);
        int zeros = 0;
        for (int level : levels) {
            if (level == 0) {
                zeros++;
            } else {
                u(zeros).s(level);
                zeros = 0;
            }
        }
        return this;
    }

    /** A block of the likely mode with one coefficient. */
    BitText one(int i, int level) {
        return raw("1").u(1).u(i).s(level);
    }

    int length() {
        return text.length();
    }

    /** With zeros up to the last byte's end. */
    String filled() {
        return text + "0".repeat((8 - text.length() % 8) % 8);
    }

    Supplier<IntraMill> fed() {
        return fed(filled());
    }

    /** Fed and unpacked. */
    Supplier<IntraMill> unpacked() {
        return () -> {
            IntraMill mill = fed().get();
            mill.unpack();
            return mill;
        };
    }

    /** A new object that has these bits; they are whole bytes. */
    static Supplier<IntraMill> fed(String bits) {
        return () -> {
            IntraMill mill = new IntraMill();
            load(mill, bits);
            return mill;
        };
    }

    /** An object's bits become these; they are whole bytes. */
    static void load(IntraMill mill, String bits) {
        int bytes = bits.length() / 8;
        String wide = bits + "0".repeat(32);
        mill.end(0);
        for (int i = 0; i < bytes; i += 4) {
            mill.feed((int) Long.parseLong(wide.substring(8 * i, 8 * i + 32), 2));
        }
        mill.end(bytes);
    }
}
