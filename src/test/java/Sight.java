import java.util.function.Function;
import java.util.function.Supplier;

/**
 * All that an object shows by the calls that change nothing, as a text. Nothing is promised behind an object's 512th
 * call, so an object that shows much is made again, by its recipe, before that.
 */
final class Sight {
    /** With this many, a recipe may make some 300 calls of its own. */
    private static final int MOST_READS = 200;
    /** A picture that does not end is looked at no farther. */
    private static final int FARTHEST = 40;

    private final Supplier<IntraMill> recipe;
    private final StringBuilder text = new StringBuilder();
    private IntraMill mill;
    private int reads;

    private Sight(Supplier<IntraMill> recipe) {
        this.recipe = recipe;
    }

    static String of(Supplier<IntraMill> recipe) {
        Sight sight = new Sight(recipe);
        sight.addAbout();
        sight.addPixels();
        sight.addBlocks();
        sight.addBytes();
        return sight.text.toString();
    }

    static String pixels(Supplier<IntraMill> recipe) {
        Sight sight = new Sight(recipe);
        sight.addPixels();
        return sight.text.toString();
    }

    static String blocks(Supplier<IntraMill> recipe) {
        Sight sight = new Sight(recipe);
        sight.addBlocks();
        return sight.text.toString();
    }

    static String bytes(Supplier<IntraMill> recipe) {
        Sight sight = new Sight(recipe);
        sight.addBytes();
        return sight.text.toString();
    }

    /** Each byte as eight characters 0 and 1. */
    static String bits(Supplier<IntraMill> recipe) {
        StringBuilder bits = new StringBuilder();
        for (String value : bytes(recipe).split(" ")) {
            if (!value.isEmpty()) {
                bits.append(Integer.toBinaryString(256 + Integer.parseInt(value)).substring(1));
            }
        }
        return bits.toString();
    }

    private int read(Function<IntraMill, Integer> call) {
        if (mill == null || reads == MOST_READS) {
            mill = recipe.get();
            reads = 0;
        }
        reads++;
        return call.apply(mill);
    }

    private int pixel(int x, int y) {
        return read(mill -> mill.pixel(x, y));
    }

    private int about(int what) {
        return read(mill -> mill.about(what));
    }

    private void addAbout() {
        for (int what = 0; what < 5; what++) {
            text.append(about(what)).append(' ');
        }
        text.append("place ").append(read(IntraMill::place)).append('\n');
    }

    private void addPixels() {
        for (int y = 0; y < FARTHEST && pixel(0, y) != IntraMill.NONE; y++) {
            for (int x = 0; x < FARTHEST && pixel(x, y) != IntraMill.NONE; x++) {
                text.append(pixel(x, y)).append(' ');
            }
            text.append('\n');
        }
    }

    private void addBlocks() {
        int blocks = about(0) * about(1);
        for (int i = 0; i < blocks; i++) {
            int block = i;
            for (int k = IntraMill.NONE; k < 16; k++) {
                int what = k;
                text.append(read(mill -> mill.block(block, what))).append(' ');
            }
            text.append('\n');
        }
    }

    private void addBytes() {
        int bytes = about(4);
        for (int k = 0; k < bytes; k++) {
            int i = k;
            text.append(read(mill -> mill.bits(i))).append(' ');
        }
    }
}
