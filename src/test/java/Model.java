import java.util.ArrayList;
import java.util.List;

/** The document's codec again, written word by word and without care for speed, to compare with. */
final class Model {
    private static final String ORDER = "00 10 01 02 11 20 30 21 12 03 13 22 31 32 23 33";
    private static final int[][] V = {{10, 11, 13, 14, 16, 18}, {16, 18, 20, 23, 25, 29}, {13, 14, 16, 18, 20, 23}};
    private static final int[][] W = {
        {13107, 11916, 10082, 9362, 8192, 7282},
        {5243, 4660, 4194, 3647, 3355, 2893},
        {8066, 7490, 6554, 5825, 5243, 4559}
    };

    int across = 1;
    int down = 1;
    int qp = 0;
    boolean smooth = false;
    int[][] pixels = new int[4][4];
    List<Integer> modes = new ArrayList<>();
    List<int[]> levels = new ArrayList<>();
    String bits = "";
    int place = -1;

    void begin(int a, int d) {
        across = a;
        down = d;
        qp = 0;
        smooth = false;
        pixels = new int[4 * d][4 * a];
        modes = new ArrayList<>();
        levels = new ArrayList<>();
        for (int i = 0; i < a * d; i++) {
            modes.add(-1);
            levels.add(new int[16]);
        }
    }

    private static boolean may(int mode, boolean above, boolean left) {
        return mode == 2 || ("0 3 7".contains("" + mode) ? above : "1 8".contains("" + mode) ? left : above && left);
    }

    boolean may(int block, int mode) {
        return may(mode, block / across > 0, block % across > 0);
    }

    private int t(int block, int k) {
        int x = 4 * (block % across);
        int y = 4 * (block / across);
        int at = Math.min(k, 7);
        if (block % across == across - 1) {
            at = Math.min(at, 3);
        }
        return pixels[y - 1][x + at];
    }

    private int l(int block, int k) {
        return pixels[4 * (block / across) + Math.min(k, 3)][4 * (block % across) - 1];
    }

    private int p(int block, int k) {
        if (k > 0) {
            return t(block, k - 1);
        }
        return k < 0 ? l(block, -k - 1) : pixels[4 * (block / across) - 1][4 * (block % across) - 1];
    }

    private static int two(int a, int b) {
        return (a + b + 1) / 2;
    }

    private static int three(int a, int b, int c) {
        return (a + 2 * b + c + 2) / 4;
    }

    private int mean(int b) {
        boolean above = b / across > 0;
        boolean left = b % across > 0;
        int ts = above ? t(b, 0) + t(b, 1) + t(b, 2) + t(b, 3) : 0;
        int ls = left ? l(b, 0) + l(b, 1) + l(b, 2) + l(b, 3) : 0;
        return above && left ? (ts + ls + 4) / 8 : above || left ? (ts + ls + 2) / 4 : 128;
    }

    int foretold(int b, int mode, int x, int y) {
        if (!may(b, mode)) {
            return -1;
        }
        int z;
        int n;
        switch (mode) {
            case 0:
                return t(b, x);
            case 1:
                return l(b, y);
            case 2:
                return mean(b);
            case 3:
                return three(t(b, x + y), t(b, x + y + 1), t(b, x + y + 2));
            case 4:
                return three(p(b, x - y - 1), p(b, x - y), p(b, x - y + 1));
            case 5:
                z = 2 * x - y;
                n = x - y / 2;
                if (z == -1) {
                    return three(p(b, -1), p(b, 0), p(b, 1));
                }
                if (z < -1) {
                    return three(p(b, -y), p(b, 1 - y), p(b, 2 - y));
                }
                return z % 2 == 0 ? two(p(b, n), p(b, n + 1)) : three(p(b, n - 1), p(b, n), p(b, n + 1));
            case 6:
                z = 2 * y - x;
                n = y - x / 2;
                if (z == -1) {
                    return three(p(b, 1), p(b, 0), p(b, -1));
                }
                if (z < -1) {
                    return three(p(b, x), p(b, x - 1), p(b, x - 2));
                }
                return z % 2 == 0 ? two(p(b, -n), p(b, -n - 1)) : three(p(b, 1 - n), p(b, -n), p(b, -n - 1));
            case 7:
                n = x + y / 2;
                return y % 2 == 0 ? two(t(b, n), t(b, n + 1)) : three(t(b, n), t(b, n + 1), t(b, n + 2));
            default:
                n = y + x / 2;
                return x % 2 == 0 ? two(l(b, n), l(b, n + 1)) : three(l(b, n), l(b, n + 1), l(b, n + 2));
        }
    }

    private static int kind(int u, int v) {
        return u % 2 == 0 && v % 2 == 0 ? 0 : u % 2 == 1 && v % 2 == 1 ? 1 : 2;
    }

    private static int u(int i) {
        return ORDER.charAt(3 * i) - '0';
    }

    private static int v(int i) {
        return ORDER.charAt(3 * i + 1) - '0';
    }

    private static int[] backLine(int a, int b, int c, int d) {
        int p = a + c;
        int q = a - c;
        int r = Math.floorDiv(b, 2) - d;
        int s = b + Math.floorDiv(d, 2);
        return new int[] {p + s, q + r, q - r, p - s};
    }

    private static int[] forthLine(int a, int b, int c, int d) {
        int p = a + d;
        int q = b + c;
        int r = b - c;
        int s = a - d;
        return new int[] {p + q, 2 * s + r, p - q, s - 2 * r};
    }

    private static int[][] lines(int[][] m, boolean back) {
        int[][] rows = new int[4][];
        for (int y = 0; y < 4; y++) {
            int[] row = m[y];
            rows[y] = back ? backLine(row[0], row[1], row[2], row[3]) : forthLine(row[0], row[1], row[2], row[3]);
        }
        return rows;
    }

    private static int[][] turned(int[][] m) {
        int[][] other = new int[4][4];
        for (int i = 0; i < 16; i++) {
            other[i % 4][i / 4] = m[i / 4][i % 4];
        }
        return other;
    }

    private static int[][] transform(int[][] m, boolean back) {
        return turned(lines(turned(lines(m, back)), back));
    }

    private void comeBack(int b) {
        int[][] c = new int[4][4];
        for (int i = 0; i < 16; i++) {
            c[v(i)][u(i)] = levels.get(b)[i] * V[kind(u(i), v(i))][qp % 6] * (1 << qp / 6);
        }
        c = transform(c, true);
        int[][] told = new int[4][4];
        for (int i = 0; i < 16; i++) {
            told[i / 4][i % 4] = foretold(b, modes.get(b), i % 4, i / 4);
        }
        for (int i = 0; i < 16; i++) {
            int value = told[i / 4][i % 4] + Math.floorDiv(c[i / 4][i % 4] + 32, 64);
            pixels[4 * (b / across) + i / 4][4 * (b % across) + i % 4] = Math.max(0, Math.min(255, value));
        }
    }

    private int[][] less(int b, int mode) {
        int[][] rest = new int[4][4];
        for (int i = 0; i < 16; i++) {
            int pixel = pixels[4 * (b / across) + i / 4][4 * (b % across) + i % 4];
            rest[i / 4][i % 4] = pixel - foretold(b, mode, i % 4, i / 4);
        }
        return rest;
    }

    private int best(int b) {
        int best = -1;
        int least = 0;
        for (int mode = 8; mode >= 0; mode--) {
            if (may(b, mode)) {
                int sum = 0;
                for (int[] row : less(b, mode)) {
                    for (int value : row) {
                        sum += Math.abs(value);
                    }
                }
                if (best < 0 || sum <= least) {
                    best = mode;
                    least = sum;
                }
            }
        }
        return best;
    }

    private int likely(int b) {
        if (b / across == 0 || b % across == 0) {
            return 2;
        }
        return Math.min(modes.get(b - across), modes.get(b - 1));
    }

    int pack(int newQp, boolean newSmooth) {
        qp = newQp;
        smooth = newSmooth;
        BitText out = BitText.head(across, down, qp, smooth ? 1 : 0);
        for (int b = 0; b < across * down; b++) {
            int mode = best(b);
            int[][] c = transform(less(b, mode), false);
            int[] row = new int[16];
            for (int i = 0; i < 16; i++) {
                int value = c[v(i)][u(i)];
                long power = 1L << (15 + qp / 6);
                long size = (Math.abs((long) value) * W[kind(u(i), v(i))][qp % 6] + power / 3) / power;
                row[i] = (int) (value < 0 ? -size : size);
            }
            modes.set(b, mode);
            levels.set(b, row);
            comeBack(b);
            writeBlock(out, b);
        }
        smoothAll();
        bits = out.filled();
        return bits.length() / 8;
    }

    private void writeBlock(BitText out, int b) {
        int mode = modes.get(b);
        int likely = likely(b);
        if (mode == likely) {
            out.raw("1");
        } else {
            out.raw("0").raw(Integer.toBinaryString(8 + (mode > likely ? mode - 1 : mode)).substring(1));
        }
        List<Integer> at = new ArrayList<>();
        for (int i = 0; i < 16; i++) {
            if (levels.get(b)[i] != 0) {
                at.add(i);
            }
        }
        out.u(at.size());
        int behind = 0;
        for (int i : at) {
            out.u(i - behind).s(levels.get(b)[i]);
            behind = i + 1;
        }
    }

    private void smoothAll() {
        if (!smooth) {
            return;
        }
        for (int y = 0; y < 4 * down; y++) {
            for (int x = 4; x < 4 * across; x += 4) {
                int[] pq = edge(pixels[y][x - 2], pixels[y][x - 1], pixels[y][x], pixels[y][x + 1]);
                pixels[y][x - 1] = pq[0];
                pixels[y][x] = pq[1];
            }
        }
        for (int y = 4; y < 4 * down; y += 4) {
            for (int x = 0; x < 4 * across; x++) {
                int[] pq = edge(pixels[y - 2][x], pixels[y - 1][x], pixels[y][x], pixels[y + 1][x]);
                pixels[y - 1][x] = pq[0];
                pixels[y][x] = pq[1];
            }
        }
    }

    private int[] edge(int o, int p, int q, int r) {
        if (Math.abs(p - q) < qp * qp / 24 && Math.abs(p - o) < qp / 4 + 1 && Math.abs(r - q) < qp / 4 + 1) {
            int t = qp / 8 + 1;
            int d = Math.max(-t, Math.min(t, Math.floorDiv(4 * (q - p) + o - r + 4, 8)));
            return new int[] {Math.max(0, Math.min(255, p + d)), Math.max(0, Math.min(255, q - d))};
        }
        return new int[] {p, q};
    }

    /** A fault and its bit, thrown where the reading ends. */
    private static final class Fault extends RuntimeException {
        private static final long serialVersionUID = 1L;
        private final int kind;
        private final int bit;

        Fault(int kind, int bit) {
            this.kind = kind;
            this.bit = bit;
        }
    }

    private int next;

    private int readBits(int n) {
        if (next + n > bits.length()) {
            throw new Fault(1, next);
        }
        next += n;
        return Integer.parseInt(bits.substring(next - n, next), 2);
    }

    private int readU() {
        int one = bits.indexOf('1', next);
        int n = one - next;
        if (one < 0 || n > 15 || one + 1 + n > bits.length()) {
            throw new Fault(1, next);
        }
        int value = Integer.parseInt(bits.substring(one, one + 1 + n), 2) - 1;
        next = one + 1 + n;
        return value;
    }

    private static void must(boolean good, int kind, int bit) {
        if (!good) {
            throw new Fault(kind, bit);
        }
    }

    int unpack() {
        Model other = new Model();
        other.bits = bits;
        try {
            other.readAll();
        } catch (Fault f) {
            place = f.bit;
            return -f.kind;
        }
        across = other.across;
        down = other.down;
        qp = other.qp;
        smooth = other.smooth;
        pixels = other.pixels;
        modes = other.modes;
        levels = other.levels;
        place = -1;
        return 0;
    }

    private void readAll() {
        int from = next;
        int a = readU() + 1;
        must(a <= 8, 2, from);
        from = next;
        int d = readU() + 1;
        must(d <= 8, 2, from);
        from = next;
        int q = readU();
        must(q <= 51, 2, from);
        boolean s = readBits(1) == 1;
        begin(a, d);
        qp = q;
        smooth = s;
        for (int b = 0; b < a * d; b++) {
            readBlock(b);
            comeBack(b);
        }
        must(bits.length() - next < 8 && !bits.substring(next).contains("1"), 7, next);
        smoothAll();
    }

    private void readBlock(int b) {
        int mode = likely(b);
        if (readBits(1) == 0) {
            int from = next;
            int told = readBits(3);
            mode = told >= mode ? told + 1 : told;
            must(may(b, mode), 3, from);
        }
        modes.set(b, mode);
        int from = next;
        int count = readU();
        must(count <= 16, 4, from);
        int at = -1;
        for (int k = 0; k < count; k++) {
            from = next;
            at += readU() + 1;
            must(at < 16, 5, from);
            from = next;
            int number = readU();
            int level = number % 2 == 1 ? (number + 1) / 2 : -number / 2;
            must(level != 0 && Math.abs(level) <= 2048, 6, from);
            levels.get(b)[at] = level;
        }
    }

    /** The same text as Sight.of() makes of an object. */
    String sight() {
        StringBuilder text = new StringBuilder();
        text.append(across).append(' ').append(down).append(' ').append(qp).append(' ').append(smooth ? 1 : 0);
        text.append(' ').append(bits.length() / 8).append(" place ").append(place).append('\n');
        for (int[] row : pixels) {
            for (int value : row) {
                text.append(value).append(' ');
            }
            text.append('\n');
        }
        for (int b = 0; b < across * down; b++) {
            text.append(modes.get(b)).append(' ');
            for (int value : levels.get(b)) {
                text.append(value).append(' ');
            }
            text.append('\n');
        }
        for (int i = 0; i < bits.length(); i += 8) {
            text.append(Integer.parseInt(bits.substring(i, i + 8), 2)).append(' ');
        }
        return text.toString();
    }
}
