/** All that an object shows by the calls that change nothing, as a text. */
final class Sight {
    private Sight() {
    }

    static String of(IntraMill mill) {
        StringBuilder text = new StringBuilder();
        for (int what = 0; what < 5; what++) {
            text.append(mill.about(what)).append(' ');
        }
        text.append("place ").append(mill.place()).append('\n');
        return text.append(pixels(mill)).append(blocks(mill)).append(bytes(mill)).toString();
    }

    static String pixels(IntraMill mill) {
        StringBuilder text = new StringBuilder();
        for (int y = 0; mill.pixel(0, y) != IntraMill.NONE; y++) {
            for (int x = 0; mill.pixel(x, y) != IntraMill.NONE; x++) {
                text.append(mill.pixel(x, y)).append(' ');
            }
            text.append('\n');
        }
        return text.toString();
    }

    static String blocks(IntraMill mill) {
        StringBuilder text = new StringBuilder();
        for (int block = 0; block < mill.about(0) * mill.about(1); block++) {
            for (int what = IntraMill.NONE; what < 16; what++) {
                text.append(mill.block(block, what)).append(' ');
            }
            text.append('\n');
        }
        return text.toString();
    }

    static String bytes(IntraMill mill) {
        StringBuilder text = new StringBuilder();
        for (int i = 0; mill.bits(i) != IntraMill.NONE; i++) {
            text.append(mill.bits(i)).append(' ');
        }
        return text.toString();
    }
}
