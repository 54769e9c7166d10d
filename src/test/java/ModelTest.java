import java.util.Random;
import java.util.function.Consumer;
import java.util.function.Supplier;

/** Promises 5, 6, 7 and 13 against the model, over many pictures and many spoiled bits; the seed is fixed. */
public final class ModelTest {
    private static final Random CHANCE = new Random(20261115);

    public static void main(String[] args) {
        Check.run(ModelTest.class);
    }

    /** How a picture is packed. */
    private record Way(int qp, boolean smooth) {
    }

    @Says("Promises 5, 6, 7 and 13: pictures of many kinds, packed twice, and unpacked from spoiled bits")
    static void pictures() {
        for (int k = 0; k < 600; k++) {
            comparePicture(k);
        }
    }

    @Says("Promises 6 and 7: bits of chance")
    static void noise() {
        for (int k = 0; k < 3000; k++) {
            compareNoise(k);
        }
    }

    private static Way way() {
        return new Way(CHANCE.nextInt(52), CHANCE.nextBoolean());
    }

    private static void comparePicture(int k) {
        int most = k % 10 == 0 ? 8 : 4;
        int[][] start = paint(1 + CHANCE.nextInt(most), 1 + CHANCE.nextInt(most), k % 6);
        Way first = way();
        Way second = way();
        comparePacked("picture " + k + " " + first, start, first);
        comparePacked("picture " + k + " " + first + " " + second, start, first, second);
        Model packed = model(start, first, second);
        compareUnpacked("picture " + k + " again", start, mill -> { }, packed, first, second);
        for (int round = 0; round < 12; round++) {
            Model spoiled = model(start, first, second);
            Consumer<IntraMill> spoil = spoil(spoiled);
            compareUnpacked("picture " + k + " spoiled " + round, start, spoil, spoiled, first, second);
        }
    }

    private static void comparePacked(String name, int[][] start, Way... ways) {
        Model model = model(start, ways);
        Supplier<IntraMill> recipe = () -> mill(start, ways);
        Check.same(name, Sight.of(recipe), model.sight());
        IntraMill mill = recipe.get();
        for (int k = 0; k < 40; k++) {
            int block = CHANCE.nextInt(model.across * model.down);
            int mode = CHANCE.nextInt(9);
            int x = CHANCE.nextInt(4);
            int y = CHANCE.nextInt(4);
            String call = name + " foretold(" + block + ", " + mode + ", " + x + ", " + y + ")";
            Check.same(call, mill.foretold(block, mode, x, y), model.foretold(block, mode, x, y));
        }
    }

    private static void compareUnpacked(String name, int[][] start, Consumer<IntraMill> spoil, Model model,
            Way... ways) {
        Supplier<IntraMill> recipe = () -> {
            IntraMill mill = mill(start, ways);
            spoil.accept(mill);
            return mill;
        };
        Check.same(name + " unpack()", recipe.get().unpack(), model.unpack());
        Check.same(name, Sight.of(() -> {
            IntraMill mill = recipe.get();
            mill.unpack();
            return mill;
        }), model.sight());
    }

    private static IntraMill mill(int[][] start, Way... ways) {
        IntraMill mill = Made.begun(start[0].length / 4, start.length / 4).get();
        for (int y = 0; y < start.length; y++) {
            for (int x = 0; x < start[0].length; x += 4) {
                int[] row = start[y];
                mill.put(x / 4, y, row[x] << 24 | row[x + 1] << 16 | row[x + 2] << 8 | row[x + 3]);
            }
        }
        for (Way way : ways) {
            mill.pack(way.qp, way.smooth);
        }
        return mill;
    }

    private static Model model(int[][] start, Way... ways) {
        Model model = new Model();
        model.begin(start[0].length / 4, start.length / 4);
        for (int y = 0; y < start.length; y++) {
            model.pixels[y] = start[y].clone();
        }
        for (Way way : ways) {
            model.pack(way.qp, way.smooth);
        }
        return model;
    }

    /** Spoils the model's bits, cut, or longer, or one or two of them changed, and tells how to spoil an object's. */
    private static Consumer<IntraMill> spoil(Model model) {
        int bytes = model.bits.length() / 8;
        switch (CHANCE.nextInt(4)) {
            case 0:
                int kept = CHANCE.nextInt(bytes + 1);
                model.bits = model.bits.substring(0, 8 * kept);
                return mill -> mill.end(kept);
            case 1:
                int more = CHANCE.nextInt(2);
                model.bits += "0".repeat(31) + more;
                return mill -> mill.feed(more);
            case 2:
                return flip(model, CHANCE.nextInt(8 * bytes));
            default:
                return flip(model, CHANCE.nextInt(8 * bytes)).andThen(flip(model, CHANCE.nextInt(8 * bytes)));
        }
    }

    private static Consumer<IntraMill> flip(Model model, int bit) {
        StringBuilder text = new StringBuilder(model.bits);
        text.setCharAt(bit, text.charAt(bit) == '0' ? '1' : '0');
        model.bits = text.toString();
        int now = Integer.parseInt(model.bits.substring(bit / 8 * 8, bit / 8 * 8 + 8), 2);
        return mill -> mill.alter(bit / 8, now);
    }

    /** Bits of chance behind a good head, mostly ones, so that the reading goes far. */
    private static void compareNoise(int k) {
        BitText bits = BitText.head(1 + CHANCE.nextInt(3), 1 + CHANCE.nextInt(3), CHANCE.nextInt(52), k % 2);
        int ones = 40 + CHANCE.nextInt(55);
        int length = CHANCE.nextInt(300);
        for (int i = 0; i < length; i++) {
            bits.raw(CHANCE.nextInt(100) < ones ? "1" : "0");
        }
        Model model = new Model();
        model.begin(1, 1);
        model.bits = bits.filled();
        Check.same("noise " + k + " unpack()", bits.fed().get().unpack(), model.unpack());
        Check.same("noise " + k, Sight.of(bits.unpacked()), model.sight());
    }

    private static int[][] paint(int across, int down, int kind) {
        int[][] pixels = new int[4 * down][4 * across];
        int a = CHANCE.nextInt(31) - 15;
        int b = CHANCE.nextInt(31) - 15;
        int c = CHANCE.nextInt(256);
        int rough = 1 + CHANCE.nextInt(12);
        for (int y = 0; y < 4 * down; y++) {
            for (int x = 0; x < 4 * across; x++) {
                int grey = shade(kind, x, y, a, b) + c + CHANCE.nextInt(rough);
                pixels[y][x] = Math.max(0, Math.min(255, grey));
            }
        }
        return pixels;
    }

    private static int shade(int kind, int x, int y, int a, int b) {
        switch (kind) {
            case 0:
                return CHANCE.nextInt(512) - 256;
            case 1:
                return CHANCE.nextBoolean() ? 255 : -255;
            case 2:
                return a * x + b * y;
            case 3:
                return a * (x / 4) + b * (y / 4);
            case 4:
                return (2 * x + y) % 7 * a;
            default:
                return (x - 2 * y & 7) * b;
        }
    }
}
