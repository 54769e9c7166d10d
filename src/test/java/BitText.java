/** Bits written by hand, as a text of 0 and 1. */
final class BitText {
    private final StringBuilder text = new StringBuilder();

    /** A head: blocks across and down, QP, and whether it is smoothed. */
    static BitText head(int across, int down, int qp, int smooth) {
        return new BitText().u(across - 1).u(down - 1).u(qp).raw(smooth == 1 ? "1" : "0");
    }

    BitText raw(String zerosAndOnes) {
        text.append(zerosAndOnes);
        return this;
    }

    BitText u(int number) {
        String digits = Integer.toBinaryString(number + 1);
        return raw("0".repeat(digits.length() - 1)).raw(digits);
    }

    BitText s(int number) {
        return u(number > 0 ? 2 * number - 1 : -2 * number);
    }

    /** A block of the likely mode without coefficients. */
    BitText plain() {
        return raw("1").u(0);
    }

    int length() {
        return text.length();
    }

    String filled() {
        return text + "0".repeat((8 - text.length() % 8) % 8);
    }

    /** The object's bits become these, with zeros up to the last byte's end. */
    void into(IntraMill mill) {
        load(mill, filled());
    }

    /** The object's bits become these; there are whole bytes of them. */
    static void load(IntraMill mill, String bits) {
        int bytes = bits.length() / 8;
        String wide = bits + "0".repeat(32);
        mill.end(0);
        for (int i = 0; i < bytes; i += 4) {
            mill.feed((int) Long.parseLong(wide.substring(8 * i, 8 * i + 32), 2));
        }
        mill.end(bytes);
    }

    static String of(IntraMill mill) {
        StringBuilder bits = new StringBuilder();
        for (int i = 0; i < mill.about(4); i++) {
            bits.append(Integer.toBinaryString(256 + mill.bits(i)).substring(1));
        }
        return bits.toString();
    }
}
