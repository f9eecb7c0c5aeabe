import java.util.Arrays;

/** Numbers about the bounds of an argument. */
final class Edges {
    private Edges() {
    }

    /** The last ones within, the first ones beyond, and some far off that would look right if bits were cut off. */
    static int[] around(int low, int high) {
        int[] all = {
            low - 2, low - 1, low, low + 1, high - 1, high, high + 1, high + 2,
            low - 256, low + 256, high - 65536, high + 65536, low + (1 << 31), high + (1 << 31),
            Integer.MIN_VALUE, Integer.MAX_VALUE, -1, 0,
        };
        return Arrays.stream(all).distinct().toArray();
    }

    static boolean within(int x, int low, int high) {
        return low <= x && x <= high;
    }
}
