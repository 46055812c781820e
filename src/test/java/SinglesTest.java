import java.util.Random;

/** Instructions 20 to 24 against Java's own floats, bit by bit (promises 13 and 16). */
public final class SinglesTest {
    private static final int[] EDGES = {0, 0x80000000, 1, 0x80000001, 0x7FFFFF, 0x807FFFFF, 0x800000, 0x80800000,
        0x800001, 0x3F800000, 0xBF800000, 0x3F800001, 0x7F7FFFFF, 0xFF7FFFFF, 0x7F000000, 0x4B000000, 0x4B7FFFFF,
        0x4B800000, 0x4F000000, 0xCF000000, 0xCF000001, 0x4EFFFFFF, 0x1F800000, 0x20000000, 0x5F800000, 0x60000000,
        0x33800000, 0x33800001, 0x73800000, 0x400000, 0x3EFFFFFF, 0xBF7FFFFF};

    public static void main(String[] args) {
        for (int a : EDGES) {
            for (int b : EDGES) {
                pair(a, b);
            }
        }
        Random random = new Random(5);
        for (int i = 0; i < 6000; i++) {
            int a = finite(random.nextInt());
            int near = a ^ random.nextInt(1 << 24);
            pair(a, finite(random.nextInt()));
            pair(a, finite(near));
            pair(a, finite(near ^ 0x80000000));
            // products about 1 and about the least numbers
            pair(a, finite((random.nextInt() & 0x807FFFFF) | Math.floorMod(254 - (a >>> 23 & 255), 255) << 23));
            pair(a, finite((random.nextInt() & 0x807FFFFF) | Math.floorMod(115 - (a >>> 23 & 255), 255) << 23));
        }
        infinite();
        constants();
        ints(random);
        Kit.end("SinglesTest");
    }

    private static int finite(int bits) {
        return (bits & 0x7F800000) == 0x7F800000 ? bits ^ 0x40000000 : bits;
    }

    private static void pair(int a, int b) {
        float fa = Float.intBitsToFloat(a);
        float fb = Float.intBitsToFloat(b);
        single(a, b, 21, fa + fb);
        single(a, b, 22, fa * fb);
    }

    /** F0 = a, F1 = b by a forged frame; then one instruction on them. */
    private static void single(int a, int b, int op, float want) {
        RankEntry x = new RankEntry();
        Kit.put(x, 128, 9, 2, 9, 3, 9, 4, 9, 4, 9, 4, 9, 4, 9, 4, 9, 4, 9, 5, 9, 6, 18);
        x.vector(0, 128);
        x.rank(0, 0);
        x.enable(0, true);
        Kit.put(x, 0, makes(2, a));
        Kit.put(x, 42, makes(3, b));
        x.run(28);
        Kit.put(x, 84, 1, 5, 200, 1, 6, 90, 7, 6, 8, 1, 7, 4, 6, 6, 7);
        Kit.put(x, 200, op, 0, 1, 23, 0, 0);
        x.run(5);
        x.pend(0);
        x.run(6 + 11 + 10);
        Kit.due(16, "F0 is made of " + a, Kit.reg(x, 8), a);
        Kit.due(16, "F1 is made of " + b, Kit.reg(x, 9), b);
        x.run(1);
        String what = op + " on " + Integer.toHexString(a) + ", " + Integer.toHexString(b);
        if (Float.isInfinite(want)) {
            Kit.due(13, what + " is WRONG", x.count(7), 1);
            Kit.due(16, what + ": F0 stays", Kit.reg(x, 8), a);
            Kit.due(13, what + ": the place stays", x.state(4), 200);
            return;
        }
        Kit.due(16, what, Kit.reg(x, 8), Float.floatToRawIntBits(want));
        Kit.due(13, what + ": no fault", x.count(7), 0);
        x.run(op == 21 ? 2 : 3);
        Kit.due(13, what + ", cut", Kit.reg(x, 0), (int) want);
    }

    private static int[] makes(int reg, int value) {
        return new int[] {1, reg, 0, 1, 7, 0,
            1, 7, value >>> 24, 7, reg, 8, 6, reg, 7,
            1, 7, value >>> 16 & 255, 7, reg, 8, 6, reg, 7,
            1, 7, value >>> 8 & 255, 7, reg, 8, 6, reg, 7,
            1, 7, value & 255, 7, reg, 8, 6, reg, 7};
    }

    /** Each of the four is doubled, or squared, till that would be infinite. */
    private static void infinite() {
        for (int i = 0; i < 4; i++) {
            RankEntry x = Kit.with(0, 20, i, 16, 21, i, i, 11, 0, 3);
            x.run(200);
            x.run(1 + 3 * 127 - 200);
            Kit.due(16, "21: F" + i + " is 2 to the power of 127", Kit.reg(x, 8 + i), 0x7F000000);
            Kit.due(13, "21: no fault", x.count(7), 0);
            x.run(1);
            Kit.due(13, "21: infinite", x.count(7), 1);
            Kit.due(16, "21: F" + i + " stays", Kit.reg(x, 8 + i), 0x7F000000);
            RankEntry y = Kit.with(0, 20, i, 64, 22, i, i, 11, 0, 3);
            y.run(1 + 4 * 5);
            Kit.due(16, "22: F" + i + " is 2 to the power of 64", Kit.reg(y, 8 + i), 0x5F800000);
            y.run(1);
            Kit.due(13, "22: infinite", y.count(7), 1);
            Kit.due(16, "22: F" + i + " stays", Kit.reg(y, 8 + i), 0x5F800000);
        }
    }

    private static void constants() {
        for (int y = 0; y < 256; y++) {
            RankEntry x = Kit.with(0, 20, 7, y);
            x.run(1);
            Kit.due(13, "20, " + y, Kit.reg(x, 11), Float.floatToIntBits(y / 16f));
            Kit.due(13, "20: FLOATS", x.state(10), 1);
        }
    }

    private static void ints(Random random) {
        int[] edges = {0, 1, -1, 16777215, 16777216, 16777217, 16777219, -16777217, 33554434, 33554435,
            Integer.MAX_VALUE, Integer.MIN_VALUE, Integer.MIN_VALUE + 1, Integer.MAX_VALUE - 64};
        for (int i = 0; i < 3000; i++) {
            int value = i < edges.length ? edges[i] : random.nextInt() >> random.nextInt(32);
            RankEntry x = Kit.with(0, makes(2, value));
            Kit.put(x, 42, 24, 1, 10, 23, 3, 5);
            x.run(16);
            Kit.due(13, "24, " + value, Kit.reg(x, 9), Float.floatToIntBits((float) value));
            Kit.due(13, "23, " + value, Kit.reg(x, 3), (int) (float) value);
        }
    }
}
