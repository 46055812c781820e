/** The instructions, one by one: what they change, how long they are, what they raise (promise 13). */
public final class InstructionsTest {
    public static void main(String[] args) {
        lengthsAndCycles();
        ints();
        shifts();
        stackAndData();
        jumps();
        sources();
        returns();
        ranks();
        outs();
        wrongOnes();
        aroundTheEnd();
        Kit.end("InstructionsTest");
    }

    /** Each instruction that goes on behind itself: the place behind it, and when the next one is done. */
    private static void lengthsAndCycles() {
        int[] lengths = {0, 3, 3, 3, 3, 3, 3, 3, 3, 2, 2, 3, 3, 3, 2, 2, 2, 2, 1, 1, 3, 3, 3, 3, 3, 3, 2, 2, 3, 3};
        int[] cycles = {0, 1, 1, 1, 2, 4, 1, 1, 1, 1, 1, 1, 1, 1, 1, 1, 1, 1, 1, 1, 1, 2, 3, 1, 1, 1, 1, 1, 1, 1};
        for (int op = 1; op < 30; op++) {
            if (op == 11 || op == 18) {
                continue;
            }
            // R1 is 1, two words lie on the stack; then x is 0, y is 1
            RankEntry x = Kit.with(0, 1, 1, 1, 9, 0, 9, 0, op, 0, 1, 11, 0, 7 + lengths[op]);
            Kit.put(x, 7 + lengths[op], 27, 1);
            x.run(3);
            Kit.due(13, "the place ahead of " + op, x.state(4), 7);
            x.run(1);
            Kit.due(13, "the place behind " + op, x.state(4), 7 + lengths[op]);
            Kit.due(13, "the stall of " + op, x.state(2), cycles[op] - 1);
            Kit.due(13, "done with " + op, x.count(10), 4);
            Kit.due(13, "faults of " + op, x.count(7), 0);
            Kit.due(13, "floats by " + op, x.state(10), op >= 20 && op <= 24 ? 1 : 0);
            for (int left = cycles[op] - 1; left > 0; left--) {
                x.run(1);
                Kit.due(13, "the stall of " + op, x.state(2), left - 1);
                Kit.due(13, "done in the stall of " + op, x.count(10), 4);
            }
            int before = x.count(15);
            x.run(1);
            Kit.due(13, "the next one behind " + op, x.count(15), op == 19 ? before : before + 1);
        }
    }

    /** Does one instruction on R0 = a, R1 = b, made of bytes, and answers the machine. */
    private static RankEntry on(int a, int b, int... bytes) {
        RankEntry x = new RankEntry();
        int at = makes(x, 0, 0, a);
        at = makes(x, at, 1, b);
        Kit.put(x, at, bytes);
        x.run(28);
        Kit.due(13, "R0 is made", Kit.reg(x, 0), a);
        Kit.due(13, "R1 is made", Kit.reg(x, 1), b);
        x.run(1);
        return x;
    }

    /** Code that makes a number in a register (R7 helps): 14 instructions. */
    private static int makes(RankEntry x, int at, int reg, int value) {
        int[] all = {1, reg, 0, 1, 7, 0,
            1, 7, value >>> 24, 7, reg, 8, 6, reg, 7,
            1, 7, value >>> 16 & 255, 7, reg, 8, 6, reg, 7,
            1, 7, value >>> 8 & 255, 7, reg, 8, 6, reg, 7,
            1, 7, value & 255, 7, reg, 8, 6, reg, 7};
        Kit.put(x, at, all);
        return at + all.length;
    }

    private static void dueInt(String what, RankEntry x, int value) {
        Kit.due(13, what, Kit.reg(x, 0), value);
        Kit.due(13, what + ": Z", x.state(6), value == 0 ? 1 : 0);
        Kit.due(13, what + ": N", x.state(7), value < 0 ? 1 : 0);
        Kit.due(13, what + ": faults", x.count(7), 0);
    }

    private static void ints() {
        int min = Integer.MIN_VALUE;
        int max = Integer.MAX_VALUE;
        dueInt("max + 1", on(max, 1, 2, 0, 1), min);
        dueInt("3 + -3", on(3, -3, 2, 0, 1), 0);
        dueInt("min - 1", on(min, 1, 3, 0, 1), max);
        dueInt("3 - 5", on(3, 5, 3, 0, 1), -2);
        dueInt("65536 * 65536", on(65536, 65536, 4, 0, 1), 0);
        dueInt("123456 * -98765", on(123456, -98765, 4, 0, 1), 123456 * -98765);
        dueInt("7 / -2", on(7, -2, 5, 0, 1), -3);
        dueInt("-7 / 2", on(-7, 2, 5, 0, 1), -3);
        dueInt("1 / 2", on(1, 2, 5, 0, 1), 0);
        dueInt("9 / 1", on(9, 1, 5, 0, 1), 9);
        dueInt("min / -1", on(min, -1, 5, 0, 1), min);
        dueInt("x and y beyond 7", on(12, 10, 6, 8, 249), 6);
        dueInt("5 xor 5", on(5, 5, 6, 0, 1), 0);
        RankEntry x = on(9, 0, 5, 0, 1);
        Kit.due(13, "9 / 0 is WRONG", Kit.event(x, 0, 0), 3);
        Kit.due(13, "9 / 0: R0 stays", Kit.reg(x, 0), 9);
        Kit.due(13, "9 / 0: 1 cycle", x.state(2), 0);
        Kit.due(13, "9 / 0: the place stays", x.state(4), 84);
        Kit.due(13, "9 / 0: Z stays", x.state(6), 1);
        RankEntry y = on(0, 77, 8, 0, 1);
        Kit.due(13, "8", Kit.reg(y, 0), 77);
        Kit.due(13, "8: Z stays", y.state(6), 0);
        RankEntry z = on(0, 77, 1, 8, 255);
        Kit.due(13, "1: 0 to 255", Kit.reg(z, 0), 255);
        Kit.due(13, "1: N stays", z.state(7), 0);
    }

    private static void shifts() {
        int[] values = {1, -1, 0x12345678, 0x87654321};
        for (int value : values) {
            for (int by : new int[] {0, 1, 31, 32, 33, 63, 64, 65, 255}) {
                int m = by % 64;
                int want = m < 32 ? value << m : value >> m - 32;
                dueInt(value + " by " + by, on(value, 0, 7, 0, by), want);
            }
        }
    }

    private static void stackAndData() {
        RankEntry x = Kit.with(0, 1, 3, 200, 9, 3, 9, 11, 10, 12, 10, 5, 10, 5);
        x.run(3);
        Kit.due(13, "9: two on it", x.state(5), 2);
        Kit.due(13, "9: the word", Kit.word(x, 1), 200);
        x.run(2);
        Kit.due(13, "10: R4", Kit.reg(x, 4), 200);
        Kit.due(13, "10: R5", Kit.reg(x, 5), 200);
        Kit.due(13, "10: none on it", x.state(5), 0);
        Kit.due(17, "word(1), on it no more", Kit.word(x, 1), 200);
        x.run(1);
        Kit.due(13, "10: none there is FULL", x.count(7), 1);
        Kit.due(13, "10: its place stays", x.state(4), 11);
        RankEntry y = Kit.with(0, 9, 0, 11, 0, 0);
        y.run(192);
        Kit.due(13, "9: 96 on it", y.state(5), 96);
        y.run(1);
        Kit.due(13, "9: no room is FULL", y.count(7), 1);
        Kit.due(13, "9: 96 still", y.state(5), 96);
        RankEntry z = Kit.with(0, 1, 0, 77, 29, 8, 31, 28, 14, 15, 28, 5, 16);
        z.run(4);
        Kit.due(18, "data(15)", Kit.data(z, 15), 77);
        Kit.due(13, "28: R6", Kit.reg(z, 6), 77);
        Kit.due(13, "28: DATA 16 is DATA 0", Kit.reg(z, 5), 0);
        RankEntry w = Kit.with(0, 26, 5, 9, 0, 26, 5);
        w.run(1);
        Kit.due(13, "26: no two on it is FULL", w.count(7), 1);
        RankEntry v = Kit.with(0, 1, 0, 255, 9, 0, 9, 1, 26, 255, 26, 3, 10, 1, 26, 1);
        v.run(4);
        Kit.due(13, "26: the word ahead of the last", Kit.word(v, 0), 510);
        v.run(1);
        Kit.due(13, "26: modulo 512", Kit.word(v, 0), 1);
        Kit.due(13, "26: the last stays", Kit.word(v, 1), 0);
        v.run(2);
        Kit.due(13, "26: one on it is FULL", v.count(7), 1);
        RankEntry u = Kit.with(0, 1, 1, 1, 3, 0, 1, 9, 0, 9, 0, 26, 0);
        u.run(5);
        Kit.due(13, "26: below 0, 0 to 511", Kit.word(u, 0), 511);
    }

    private static void jumps() {
        RankEntry x = Kit.with(0, 11, 1, 44);
        x.run(1);
        Kit.due(13, "11", x.state(4), 300);
        RankEntry y = Kit.with(0, 11, 7, 9);
        y.run(1);
        Kit.due(13, "11: modulo 512", y.state(4), 265);
        RankEntry z = Kit.with(0, 12, 0, 50, 13, 0, 50, 6, 0, 0, 13, 0, 50, 12, 0, 50);
        z.run(2);
        Kit.due(13, "12, 13: neither", z.state(4), 6);
        z.run(2);
        Kit.due(13, "13: N is 0", z.state(4), 12);
        z.run(1);
        Kit.due(13, "12: Z is 1", z.state(4), 50);
        RankEntry w = Kit.with(0, 1, 1, 1, 3, 0, 1, 12, 0, 90, 13, 1, 255);
        w.run(3);
        Kit.due(13, "12: Z is 0", w.state(4), 9);
        w.run(1);
        Kit.due(13, "13: N is 1", w.state(4), 511);
    }

    private static void sources() {
        RankEntry x = Kit.with(0, 14, 35, 14, 17, 14, 18, 15, 17, 15, 26, 15, 3, 17, 255, 16, 255, 16, 254);
        x.run(1);
        Kit.due(13, "14: 35 is 17", x.source(17, 3), 1);
        x.run(1);
        Kit.due(13, "14: merged", x.count(9), 1);
        x.run(1);
        Kit.due(13, "14: 18 is 0", x.source(0, 3), 1);
        x.run(1);
        Kit.due(13, "15: 17", x.source(17, 3), 0);
        x.hold(8, true);
        x.run(1);
        Kit.due(13, "15: 26 is 8, held", x.source(8, 3), 1);
        x.run(1);
        Kit.due(13, "15: one that is not pending", x.count(10), 6);
        x.run(1);
        Kit.due(13, "17", x.state(9), 255);
        x.run(1);
        Kit.due(13, "16: 255", x.state(8), 1);
        x.run(1);
        Kit.due(13, "16: 254", x.state(8), 0);
        RankEntry c = Kit.with(0, 15, 18, 15, 35);
        c.pend(0);
        c.pend(17);
        c.run(1);
        Kit.due(13, "15: 18 is 0", c.source(0, 3), 0);
        Kit.due(13, "15: 17 ahead", c.source(17, 3), 1);
        c.run(1);
        Kit.due(13, "15: 35 is 17", c.source(17, 3), 0);
        RankEntry y = Kit.with(0, 14, 3, 11, 0, 2);
        Kit.serve(y, 3, 10, 64, 18);
        y.run(1);
        Kit.due(13, "14: it waits from its cycle on", y.till(3), 6);
        Kit.due(25, "waited(3)", y.waited(3), 6);
    }

    private static void returns() {
        RankEntry x = Kit.with(0, 18);
        x.run(1);
        Kit.due(13, "18: none is active is WRONG", x.count(7), 1);
        Kit.due(13, "18: the place stays", x.state(4), 0);
        Kit.due(13, "18: the phase stays", x.state(0), 0);
        RankEntry y = Kit.idle();
        Kit.serve(y, 3, 10, 64, 1, 0, 0, 18);
        y.pend(3);
        y.till(3);
        y.run(2);
        Kit.dueEvent(24, y, 0, 2, 3, 8, 2);
        Kit.due(13, "18: the place behind", y.state(4), 68);
        Kit.due(13, "18: done", y.count(10), 2);
        Kit.due(13, "18: active no more", y.source(3, 4), 0);
    }

    private static void ranks() {
        RankEntry x = Kit.with(0, 1, 1, 200, 25, 39, 1, 25, 20, 9, 3, 0, 1, 25, 5, 0);
        x.run(2);
        Kit.due(13, "25: 39 is 19", x.source(19, 0), 200);
        x.run(1);
        Kit.due(13, "25: 20 is 0", x.source(0, 0), 200);
        x.run(2);
        Kit.due(13, "25: below 0, 0 to 255", x.source(5, 0), 56);
        RankEntry y = Kit.idle();
        Kit.serve(y, 5, 9, 64, 25, 4, 1, 25, 5, 1);
        y.pend(5);
        y.till(5);
        y.run(1);
        Kit.due(13, "25: another one", y.source(4, 0), 0);
        y.run(1);
        Kit.due(13, "25: an active one is WRONG", y.count(7), 1);
        Kit.due(13, "25: its rank stays", y.source(5, 0), 9);
    }

    private static void outs() {
        RankEntry x = Kit.with(0, 1, 1, 1, 27, 8, 2, 0, 1, 11, 0, 3);
        x.run(3 * 66 + 2);
        Kit.due(23, "count(15), all", x.count(15), 67);
        for (int i = 0; i < 64; i++) {
            Kit.due(19, "out(" + i + ")", Kit.out(x, i), i);
        }
        for (int i : new int[] {64, 66, -1, Integer.MIN_VALUE, Integer.MAX_VALUE}) {
            Kit.due(19, "out(" + i + ")", Kit.out(x, i), Kit.NO_ELEMENT);
        }
        RankEntry y = Kit.with(0, 27, 0);
        y.run(1);
        Kit.due(19, "out(0)", Kit.out(y, 0), 0);
        Kit.due(19, "out(1), none such", Kit.out(y, 1), Kit.NO_ELEMENT);
        RankEntry z = Kit.with(0, 27, 0, 11, 0, 0);
        z.run(129);
        Kit.due(19, "out(63), the 64th", Kit.out(z, 63), 0);
        Kit.due(19, "out(64), the 65th", Kit.out(z, 64), Kit.NO_ELEMENT);
    }

    private static void wrongOnes() {
        for (int op = 0; op < 256; op++) {
            if (op >= 1 && op <= 29) {
                continue;
            }
            RankEntry x = Kit.with(0, op);
            x.run(1);
            Kit.due(13, op + " is WRONG", x.count(7), 1);
            Kit.due(13, op + " is not done", x.count(10), 0);
            Kit.due(13, op + ": the place stays", x.state(4), 0);
        }
    }

    private static void aroundTheEnd() {
        RankEntry x = Kit.with(509, 11, 1, 255);
        Kit.put(x, 0, 11, 1, 253);
        x.run(2);
        Kit.due(13, "the place 511", x.state(4), 511);
        RankEntry y = Kit.with(0, 11, 1, 254);
        y.run(1);
        Kit.put(y, 510, 1, 3);
        Kit.put(y, 0, 99, 27, 3);
        y.run(1);
        Kit.due(13, "behind 511 comes 0: R3", Kit.reg(y, 3), 99);
        Kit.due(13, "behind 511 comes 0: the place", y.state(4), 1);
        y.run(1);
        Kit.due(13, "behind 511 comes 0: the next one", Kit.out(y, 0), 99);
    }
}
