/** What one coefficient alone makes of a block that is foretold as 128. */
final class Wave {
    private static final String ORDER = "00 10 01 02 11 20 30 21 12 03 13 22 31 32 23 33";

    private Wave() {
    }

    static int across(int i) {
        return ORDER.charAt(3 * i) - '0';
    }

    static int down(int i) {
        return ORDER.charAt(3 * i + 1) - '0';
    }

    /** Of three numbers that for both even, for both odd, and the other. */
    static int pick(int i, int even, int odd, int other) {
        int sum = across(i) % 2 + down(i) % 2;
        return sum == 0 ? even : sum == 2 ? odd : other;
    }

    /** How a coefficient goes along a line: all equal, falling, in and out, to and fro. */
    private static int along(int u, int at, int value) {
        int half = Math.floorDiv(value, 2);
        int[][] waves = {
            {value, value, value, value}, {value, half, -half, -value}, {value, -value, -value, value},
            {half, -value, value, -half}
        };
        return waves[u][at];
    }

    /** The pixels' text where coefficient i, times V and the power of 2, has this value. */
    static String pixels(int i, int value) {
        StringBuilder text = new StringBuilder();
        for (int y = 0; y < 4; y++) {
            for (int x = 0; x < 4; x++) {
                int more = Math.floorDiv(along(down(i), y, along(across(i), x, value)) + 32, 64);
                text.append(Math.max(0, Math.min(255, 128 + more))).append(' ');
            }
            text.append('\n');
        }
        return text.toString();
    }
}
