import java.util.Random;

/** Promises 5, 6, 7 and 13 against the model, over many pictures and many spoiled bits; the seed is fixed. */
public final class ModelTest {
    private static final Random CHANCE = new Random(20261115);

    public static void main(String[] args) {
        for (int k = 0; k < 600; k++) {
            comparePicture(k);
        }
        for (int k = 0; k < 3000; k++) {
            compareNoise(k);
        }
        Check.done();
    }

    private static void comparePicture(int k) {
        IntraMill mill = new IntraMill();
        Model model = new Model();
        int across = 1 + CHANCE.nextInt(k % 10 == 0 ? 8 : 4);
        int down = 1 + CHANCE.nextInt(k % 10 == 0 ? 8 : 4);
        mill.begin(across, down);
        model.begin(across, down);
        paint(mill, model, k % 6);
        for (int round = 0; round < 2; round++) {
            int qp = CHANCE.nextInt(52);
            boolean smooth = CHANCE.nextBoolean();
            String name = "picture " + k + " round " + round + " qp " + qp;
            Check.same(name + " pack", mill.pack(qp, smooth), model.pack(qp, smooth));
            Check.same(name, Sight.of(mill), model.sight());
            compareForetold(name, mill, model);
        }
        String packed = model.bits;
        unpackBoth("picture " + k + " again", mill, model, packed);
        for (int round = 0; round < 12; round++) {
            unpackBoth("picture " + k + " spoiled " + round, mill, model, spoiled(packed));
        }
    }

    private static void unpackBoth(String name, IntraMill mill, Model model, String bits) {
        BitText.load(mill, bits);
        model.bits = bits;
        Check.same(name + " unpack", mill.unpack(), model.unpack());
        Check.same(name, Sight.of(mill), model.sight());
    }

    private static void compareForetold(String name, IntraMill mill, Model model) {
        for (int k = 0; k < 40; k++) {
            int block = CHANCE.nextInt(model.across * model.down);
            int mode = CHANCE.nextInt(9);
            int x = CHANCE.nextInt(4);
            int y = CHANCE.nextInt(4);
            String call = name + " foretold(" + block + ", " + mode + ", " + x + ", " + y + ")";
            Check.same(call, mill.foretold(block, mode, x, y), model.foretold(block, mode, x, y));
        }
    }

    /** One bit or two changed, or cut, or longer. */
    private static String spoiled(String bits) {
        StringBuilder text = new StringBuilder(bits);
        switch (CHANCE.nextInt(4)) {
            case 0:
                text.setLength(8 * CHANCE.nextInt(bits.length() / 8 + 1));
                break;
            case 1:
                text.append("00000000".substring(CHANCE.nextInt(2))).append("1");
                text.append("0".repeat((8 - text.length() % 8) % 8));
                break;
            default:
                for (int k = CHANCE.nextInt(2); k < 2; k++) {
                    int i = CHANCE.nextInt(text.length());
                    text.setCharAt(i, text.charAt(i) == '0' ? '1' : '0');
                }
        }
        return text.toString();
    }

    /** Bits of chance behind a good head, mostly ones, so that the reading goes far. */
    private static void compareNoise(int k) {
        IntraMill mill = new IntraMill();
        Model model = new Model();
        model.begin(1, 1);
        BitText head = BitText.head(1 + CHANCE.nextInt(3), 1 + CHANCE.nextInt(3), CHANCE.nextInt(52), k % 2);
        int ones = 40 + CHANCE.nextInt(55);
        int length = CHANCE.nextInt(300);
        for (int i = 0; i < length; i++) {
            head.raw(CHANCE.nextInt(100) < ones ? "1" : "0");
        }
        unpackBoth("noise " + k, mill, model, head.filled());
    }

    private static void paint(IntraMill mill, Model model, int kind) {
        int a = CHANCE.nextInt(31) - 15;
        int b = CHANCE.nextInt(31) - 15;
        int c = CHANCE.nextInt(256);
        int rough = 1 + CHANCE.nextInt(12);
        for (int y = 0; y < 4 * model.down; y++) {
            for (int block = 0; block < model.across; block++) {
                int four = 0;
                for (int x = 4 * block; x < 4 * block + 4; x++) {
                    int grey = shade(kind, x, y, a, b) + c + CHANCE.nextInt(rough);
                    model.pixels[y][x] = Math.max(0, Math.min(255, grey));
                    if (kind == 0) {
                        model.pixels[y][x] = CHANCE.nextInt(256);
                    } else if (kind == 1) {
                        model.pixels[y][x] = CHANCE.nextBoolean() ? 255 : 0;
                    }
                    four = four << 8 | model.pixels[y][x];
                }
                mill.put(block, y, four);
            }
        }
    }

    private static int shade(int kind, int x, int y, int a, int b) {
        switch (kind) {
            case 2:
                return a * x + b * y;
            case 3:
                return a * (x / 4) + b * (y / 4);
            case 4:
                return (2 * x + y) % 7 * a;
            default:
                return (x - 2 * y & 7) * b;
        }
    }
}
