/** The boundary cases of the document's third term, the INSTRUCTIONS: places, registers, bounds, what raises. */
public final class InstructionEdgesTest {
    private static final int[] LENGTHS = {
        0, 3, 3, 3, 3, 3, 3, 3, 3, 2, 2, 3, 3, 3, 2, 2, 2, 2, 1, 1, 3, 3, 3, 3, 3, 3, 2, 2, 3, 3};
    private static final int MIN = Integer.MIN_VALUE;
    private static final int MAX = Integer.MAX_VALUE;

    public static void main(String[] args) {
        behind511Comes0();
        jumpsModulo512();
        registersModulo8();
        singlesModulo4();
        flagsStay();
        shiftsModulo64();
        divisions();
        stackBounds();
        sourcesModulo18();
        shutAndBase();
        ranksModulo20And256();
        placesModulo512();
        dataModulo16();
        outsOf64();
        faultsChangeNothing();
        infiniteOnesLeaveFloats();
        savesAheadOfSingles();
        beyondTheInts();
        returnEndsTheInnermost();
        Kit.end("InstructionEdgesTest");
    }

    private static RankEntry startingAt(int place) {
        RankEntry x = Kit.with(0, 11, place / 256, place % 256);
        x.run(1);
        Kit.due(13, "state(4)", x.state(4), place);
        return x;
    }

    /** "then x, then y (the next ones; behind 511 comes 0)", "PC goes behind it (modulo 512)" */
    private static void behind511Comes0() {
        for (int op = 1; op < 30; op++) {
            for (int place = 506; place < 512; place++) {
                RankEntry x = startingAt(place - 6);
                Kit.does(x, 9, 0);
                Kit.does(x, 9, 0);
                Kit.does(x, 16, 0);
                // R1 is 0: it would divide; x and y are 2 and 3, so that R3 is a divisor
                if (op == 5) {
                    x = startingAt(place - 3);
                    Kit.does(x, 1, 3, 7);
                }
                if (op == 11 || op == 18) {
                    continue;
                }
                Kit.due(13, "the place ahead of " + op, x.state(4), place);
                Kit.does(x, op, 2, 3);
                Kit.due(13, op + " at " + place + ": state(4)", x.state(4), (place + LENGTHS[op]) % 512);
            }
        }
        for (int place = 509; place < 512; place++) {
            RankEntry x = startingAt(place);
            Kit.does(x, 1, 5, 77);
            Kit.due(13, "1 at " + place + ": R5", Kit.reg(x, 5), 77);
            RankEntry y = startingAt(place);
            Kit.does(y, 11, 1, 9);
            Kit.due(13, "11 at " + place + ": state(4)", y.state(4), 265);
            RankEntry z = startingAt(place);
            Kit.does(z, 20, 3, 16);
            Kit.due(13, "20 at " + place + ": F3", Kit.reg(z, 11), Float.floatToIntBits(1f));
            RankEntry w = startingAt(place);
            Kit.does(w, 14, 7);
            Kit.due(13, "14 at " + place, w.source(7, 3), 1);
        }
    }

    /** "PC = (256 * x + y) modulo 512" */
    private static void jumpsModulo512() {
        for (int op = 11; op < 14; op++) {
            for (int high : new int[] {0, 1, 2, 3, 128, 254, 255}) {
                for (int low : new int[] {0, 1, 127, 128, 255}) {
                    RankEntry x = new RankEntry();
                    if (op == 12) {
                        Kit.does(x, 6, 0, 0);
                    }
                    if (op == 13) {
                        Kit.does(x, 1, 1, 1);
                        Kit.does(x, 3, 0, 1);
                    }
                    Kit.does(x, op, high, low);
                    Kit.due(13, op + " to " + high + ", " + low, x.state(4), (256 * high + low) % 512);
                }
            }
        }
        for (int op = 12; op < 14; op++) {
            RankEntry x = new RankEntry();
            if (op == 13) {
                Kit.does(x, 6, 0, 0);
            } else {
                Kit.does(x, 1, 1, 1);
                Kit.does(x, 3, 0, 1);
            }
            int pc = x.state(4);
            Kit.does(x, op, 1, 99);
            Kit.due(13, op + ", the other flag is 1: state(4)", x.state(4), pc + 3);
        }
    }

    /** R0 to R7 are 3, 10, 17 .. 52; F0 to F3 are 1, 1.5, 2, 2.5; DATA 0 to 15 are as many; two words on the stack. */
    private static RankEntry prepared() {
        RankEntry x = new RankEntry();
        for (int i = 0; i < 16; i++) {
            Kit.does(x, 1, 0, i);
            Kit.does(x, 29, 0, i);
        }
        for (int i = 0; i < 8; i++) {
            Kit.does(x, 1, i, 3 + 7 * i);
        }
        for (int i = 0; i < 4; i++) {
            Kit.does(x, 20, i, 16 + 8 * i);
        }
        Kit.does(x, 9, 5);
        Kit.does(x, 9, 6);
        return x;
    }

    /** All but the code and the events. */
    private static String registers(RankEntry x) {
        StringBuilder all = new StringBuilder();
        for (int i = 0; i < 12; i++) {
            all.append(Kit.reg(x, i)).append(' ');
        }
        for (int i = 0; i < 16; i++) {
            all.append(x.state(i)).append(' ').append(Kit.data(x, i)).append(' ').append(Kit.word(x, i)).append(' ');
            all.append(Kit.out(x, i)).append(' ');
        }
        return all.toString();
    }

    /** "R, F by x, y modulo 8, modulo 4": R. */
    private static void registersModulo8() {
        int[] byBoth = {2, 3, 4, 5, 6, 8};
        for (int op : byBoth) {
            for (int i = 0; i < 8; i++) {
                int k = (i * 3 + 2) % 8;
                for (int more : new int[] {8, 64, 248}) {
                    alike(new int[] {op, i, k}, new int[] {op, i + more, k});
                    alike(new int[] {op, i, k}, new int[] {op, i, k + more});
                }
            }
        }
        for (int i = 0; i < 8; i++) {
            for (int more : new int[] {8, 64, 248}) {
                for (int op : new int[] {1, 7, 23, 28, 29}) {
                    alike(new int[] {op, i, 1}, new int[] {op, i + more, 1});
                }
                for (int op : new int[] {9, 10, 27}) {
                    alike(new int[] {op, i}, new int[] {op, i + more});
                }
                alike(new int[] {24, 1, i}, new int[] {24, 1, i + more});
                alike(new int[] {25, 1, i}, new int[] {25, 1, i + more});
            }
        }
        for (int i = 0; i < 8; i++) {
            RankEntry x = prepared();
            Kit.does(x, 1, 248 + i, 255);
            Kit.due(13, "1: R" + i, Kit.reg(x, i), 255);
            Kit.does(x, 8, (i + 1) % 8 + 8, i + 16);
            Kit.due(13, "8: R" + (i + 1) % 8, Kit.reg(x, (i + 1) % 8), 255);
        }
        eachRegister();
    }

    /** Every instruction with every register, by its own number, from R0 = 3, R1 = 10 .. on. */
    private static void eachRegister() {
        for (int i = 0; i < 8; i++) {
            int own = 3 + 7 * i;
            for (int k = 0; k < 8; k++) {
                int other = 3 + 7 * k;
                int[] want = {own + other, own - other, own * other, own / other, own ^ other, own << other % 32, other};
                for (int op = 2; op <= 8; op++) {
                    RankEntry x = prepared();
                    Kit.does(x, op, i, op == 7 ? other % 32 : k);
                    Kit.due(13, op + " on R" + i + ", R" + k, Kit.reg(x, i), want[op - 2]);
                }
            }
            RankEntry x = prepared();
            Kit.does(x, 9, i);
            Kit.due(13, "9: R" + i, Kit.word(x, 2), own);
            Kit.does(x, 27, i);
            Kit.due(13, "27: R" + i, Kit.out(x, 0), own);
            Kit.does(x, 29, i, 4);
            Kit.due(13, "29: R" + i, Kit.data(x, 4), own);
            Kit.does(x, 24, 2, i);
            Kit.due(13, "24: R" + i, Kit.reg(x, 10), Float.floatToIntBits(own));
            Kit.does(x, 25, 6, i);
            Kit.due(13, "25: R" + i, x.source(6, 0), own);
            Kit.does(x, 28, i, 11);
            Kit.due(13, "28: R" + i, Kit.reg(x, i), 11);
            Kit.does(x, 23, i, 3);
            Kit.due(13, "23: R" + i, Kit.reg(x, i), 2);
            Kit.does(x, 10, i);
            Kit.due(13, "10: R" + i, Kit.reg(x, i), own);
        }
    }

    /** "R, F by x, y modulo 8, modulo 4": F. */
    private static void singlesModulo4() {
        for (int i = 0; i < 4; i++) {
            int k = (i + 1) % 4;
            for (int more : new int[] {4, 8, 12, 252}) {
                for (int op : new int[] {20, 24}) {
                    alike(new int[] {op, i, 5}, new int[] {op, i + more, 5});
                }
                for (int op : new int[] {21, 22}) {
                    alike(new int[] {op, i, k}, new int[] {op, i + more, k});
                    alike(new int[] {op, i, k}, new int[] {op, i, k + more});
                }
                alike(new int[] {23, 5, i}, new int[] {23, 5, i + more});
            }
            RankEntry x = prepared();
            Kit.does(x, 20, 252 + i, 255);
            Kit.due(13, "20: F" + i, Kit.reg(x, 8 + i), Float.floatToIntBits(15.9375f));
            Kit.does(x, 24, i + 4, 7);
            Kit.due(13, "24: F" + i + " is R7", Kit.reg(x, 8 + i), Float.floatToIntBits(52f));
            Kit.does(x, 23, 6, i + 8);
            Kit.due(13, "23: R6 is F" + i, Kit.reg(x, 6), 52);
        }
    }

    private static void alike(int[] one, int[] other) {
        RankEntry x = prepared();
        RankEntry y = prepared();
        String before = registers(x);
        Kit.does(x, one);
        Kit.does(y, other);
        String what = one[0] + " by " + other[1] + (other.length > 2 ? ", " + other[2] : "");
        Kit.due(13, what + ": as by less", registers(x).equals(registers(y)), true);
        Kit.due(13, what + ": something is done", registers(x).equals(before), false);
    }

    /** "(no others change Z and N)" */
    private static void flagsStay() {
        for (int op = 1; op < 30; op++) {
            if (op >= 2 && op <= 7) {
                continue;
            }
            for (int flags = 0; flags < 3; flags++) {
                RankEntry x = prepared();
                if (op == 18) {
                    Kit.serve(x, 3, 9, 400, 18);
                    x.pend(3);
                    x.till(3);
                }
                Kit.does(x, 1, 0, flags == 1 ? 0 : 1);
                Kit.does(x, 1, 1, flags == 2 ? 2 : 0);
                Kit.does(x, 3, 0, 1);
                Kit.does(x, op, 2, 3);
                Kit.due(13, op + ": Z", x.state(6), flags == 1 ? 1 : 0);
                Kit.due(13, op + ": N", x.state(7), flags == 2 ? 1 : 0);
            }
        }
    }

    /** "shifted by y modulo 64: below 32 to the left, else to the right by 32 less, the sign staying" */
    private static void shiftsModulo64() {
        for (int value : new int[] {1, -1, MIN, MAX, 0x12345678, 0}) {
            RankEntry x = new RankEntry();
            Kit.makes(x, value);
            for (int by = 0; by < 256; by++) {
                Kit.does(x, 8, 0, 7);
                Kit.does(x, 7, 0, by);
                long power = 1L << by % 32;
                int want = by % 64 < 32 ? (int) (value * power) : (int) Math.floorDiv((long) value, power);
                Kit.due(13, value + " by " + by, Kit.reg(x, 0), want);
                Kit.due(13, value + " by " + by + ": Z", x.state(6), want == 0 ? 1 : 0);
                Kit.due(13, value + " by " + by + ": N", x.state(7), want < 0 ? 1 : 0);
            }
        }
    }

    /** "Rx / Ry, cut", "ints wrap": about 0 and the ends of the ints. */
    private static void divisions() {
        int[] values = {MIN, MIN + 1, -7, -2, -1, 0, 1, 2, 7, MAX - 1, MAX};
        for (int a : values) {
            for (int b : values) {
                for (int op = 2; op <= 6; op++) {
                    RankEntry x = new RankEntry();
                    Kit.makes(x, a);
                    Kit.does(x, 8, 0, 7);
                    Kit.makes(x, b);
                    int z = x.state(6);
                    if (op == 5 && b == 0) {
                        Kit.tries(x, 5, 0, 7);
                        Kit.due(13, a + " / 0: count(7)", x.count(7), 1);
                        Kit.due(13, a + " / 0: R0", Kit.reg(x, 0), a);
                        Kit.due(13, a + " / 0: Z", x.state(6), z);
                        continue;
                    }
                    Kit.does(x, op, 0, 7);
                    long want = op == 2 ? (long) a + b : op == 3 ? (long) a - b : op == 4 ? (long) a * b
                        : op == 5 ? (long) a / b : a ^ b;
                    Kit.due(13, op + " on " + a + ", " + b, Kit.reg(x, 0), (int) want);
                    Kit.due(13, op + " on " + a + ", " + b + ": Z", x.state(6), (int) want == 0 ? 1 : 0);
                    Kit.due(13, op + " on " + a + ", " + b + ": N", x.state(7), (int) want < 0 ? 1 : 0);
                }
            }
        }
    }

    /** "[FULL] SP is 96", "[FULL] SP is 0", "[FULL] SP is less than 2" */
    private static void stackBounds() {
        for (int words : new int[] {0, 1, 2, 3, 94, 95, 96}) {
            for (int op : new int[] {9, 10, 26}) {
                RankEntry x = new RankEntry();
                x.enable(19, true);
                Kit.levels(x, words);
                boolean full = op == 9 ? words == 96 : op == 10 ? words == 0 : words < 2;
                int done = x.count(10);
                Kit.tries(x, op, 5);
                Kit.due(13, op + " of " + words + " words: raised", x.count(7), full ? 1 : 0);
                Kit.due(13, op + " of " + words + " words: FULL", x.source(19, 3), full ? 1 : 0);
                Kit.due(13, op + " of " + words + " words: done", x.count(10), full ? done : done + 1);
                int sp = full ? words : op == 9 ? words + 1 : op == 10 ? words - 1 : words;
                Kit.due(13, op + " of " + words + " words: state(5)", x.state(5), sp);
            }
        }
    }

    /** "the SOURCE x modulo 18": 14 and 15, never WRONG, FULL or HARD. */
    private static void sourcesModulo18() {
        for (int i = 0; i < 256; i++) {
            RankEntry x = new RankEntry();
            Kit.does(x, 14, i);
            RankEntry y = new RankEntry();
            for (int source = 0; source < 20; source++) {
                y.pend(source);
            }
            Kit.does(y, 15, i);
            for (int source = 0; source < 20; source++) {
                Kit.due(13, "14 by " + i + ": " + source, x.source(source, 3), source == i % 18 ? 1 : 0);
                Kit.due(13, "15 by " + i + ": " + source, y.source(source, 3), source == i % 18 ? 0 : 1);
            }
            Kit.due(13, "14 by " + i + ": 20", x.source(20, 3), 0);
            Kit.due(13, "14 by " + i + ": it is not held", x.source(i % 18, 5), 0);
        }
    }

    /** "SHUT = x modulo 2", "BASE = x" */
    private static void shutAndBase() {
        RankEntry x = new RankEntry();
        for (int i = 0; i < 256; i++) {
            Kit.does(x, 16, i);
            Kit.due(13, "16 by " + i, x.state(8), i % 2);
            Kit.does(x, 17, i);
            Kit.due(13, "17 by " + i, x.state(9), i);
            Kit.due(22, "state(12)", x.state(12), i % 2 == 1 ? 0 : i == 0 ? 256 : i);
        }
    }

    /** "the SOURCE x modulo 20 has the RANK Ry modulo 256, 0 to 255 ([WRONG] it is ACTIVE)" */
    private static void ranksModulo20And256() {
        int[] values = {0, 1, 255, 256, 257, 511, -1, -255, -256, -257, MIN, MAX, MIN + 77};
        for (int value : values) {
            RankEntry x = new RankEntry();
            Kit.makes(x, value);
            Kit.does(x, 25, 5, 7);
            Kit.due(13, "25: the rank " + value, x.source(5, 0), Math.floorMod(value, 256));
        }
        RankEntry x = new RankEntry();
        Kit.does(x, 1, 0, 9);
        for (int i = 0; i < 256; i++) {
            x.rank(i % 20, 100);
            Kit.does(x, 25, i, 0);
            for (int source = 0; source < 20; source++) {
                Kit.due(13, "25 by " + i + ": " + source, x.source(source, 0), source == i % 20 ? 9 : source < i || i > 19 ? 9 : 255);
            }
            Kit.due(13, "25 by " + i + ": HARD", x.source(20, 0), -1);
        }
        RankEntry y = Kit.idle();
        Kit.serve(y, 5, 90, 256, 11, 1, 0);
        Kit.serve(y, 6, 80, 256);
        y.pend(5);
        y.till(5);
        y.pend(6);
        y.till(6);
        for (int source : new int[] {5, 25, 45, 6, 246}) {
            int before = y.count(7);
            Kit.tries(y, 25, source, 0);
            Kit.due(13, "25 by " + source + ", active: raised", y.count(7), before + 1);
            y.clear(20);
        }
        Kit.due(13, "the rank of 5", y.source(5, 0), 90);
        Kit.due(13, "the rank of 6", y.source(6, 0), 80);
        Kit.does(y, 25, 7, 1);
        Kit.due(13, "the rank of 7, R1 is 0", y.source(7, 0), 0);
        Kit.does(y, 18);
        y.run(6);
        Kit.does(y, 25, 6, 1);
        Kit.due(13, "the rank of 6, active no more", y.source(6, 0), 0);
    }

    /** "the word ahead of the last one on the STACK is it + x, modulo 512, 0 to 511" */
    private static void placesModulo512() {
        for (int value : new int[] {0, 256, 257, 511, 512, 1000, -1, -255, -256, -512, MIN, MAX}) {
            for (int by : new int[] {0, 1, 255}) {
                RankEntry x = new RankEntry();
                Kit.does(x, 9, 0);
                Kit.pushes(x, value);
                Kit.pushes(x, -5);
                Kit.does(x, 26, by);
                Kit.due(13, "26: " + value + " by " + by, Kit.word(x, 1), Math.floorMod((long) value + by, 512L));
                Kit.due(13, "26: the last one stays", Kit.word(x, 2), -5);
                Kit.due(13, "26: the one ahead stays", Kit.word(x, 0), 0);
                Kit.due(13, "26: state(5)", x.state(5), 3);
            }
        }
    }

    /** "DATA y modulo 16" */
    private static void dataModulo16() {
        for (int i = 0; i < 256; i++) {
            RankEntry x = new RankEntry();
            Kit.does(x, 1, 2, 100);
            Kit.does(x, 29, 2, i);
            for (int at = 0; at < 16; at++) {
                Kit.due(13, "29 by " + i + ": " + at, Kit.data(x, at), at == i % 16 ? 100 : 0);
            }
            Kit.does(x, 28, 3, i);
            Kit.due(13, "28 by " + i, Kit.reg(x, 3), 100);
            Kit.does(x, 28, 3, i ^ 1);
            Kit.due(13, "28 by " + (i ^ 1), Kit.reg(x, 3), 0);
        }
    }

    /** "The i-th (from 0) that was OUT, of the first 64" */
    private static void outsOf64() {
        RankEntry x = new RankEntry();
        for (int i = 0; i < 70; i++) {
            Kit.due(19, "out(" + i + "), not yet", Kit.out(x, i), Kit.NO_ELEMENT);
            Kit.does(x, 1, 6, i + 1);
            Kit.does(x, 27, 6);
            Kit.due(19, "out(" + i + ")", Kit.out(x, i), i < 64 ? i + 1 : Kit.NO_ELEMENT);
            Kit.due(19, "out(0)", Kit.out(x, 0), 1);
            Kit.due(23, "count(15)", x.count(15), i + 1);
        }
        x.reset();
        Kit.due(15, "out(0), none", Kit.out(x, 0), Kit.NO_ELEMENT);
        Kit.does(x, 27, 0);
        Kit.due(15, "out(0), anew", Kit.out(x, 0), 0);
        Kit.due(15, "out(1), none yet", Kit.out(x, 1), Kit.NO_ELEMENT);
    }

    /** "If a FAULT is RAISED by one nothing else is changed, it has 1 CYCLE." */
    private static void faultsChangeNothing() {
        int[][] raising = {{5, 2, 3}, {9, 2}, {10, 2}, {18}, {21, 0, 1}, {22, 0, 1}, {25, 3, 4}, {26, 9}, {0}, {30},
            {255}, {128, 20, 20}};
        for (int[] bytes : raising) {
            RankEntry x = new RankEntry();
            x.enable(18, true);
            x.enable(19, true);
            x.rank(18, 1);
            x.rank(19, 1);
            Kit.does(x, 20, 0, 255);
            for (int i = 0; i < 5; i++) {
                Kit.does(x, 22, 0, 0);
            }
            // 15.9375 to the power of 32 is some 3.0e38: twice as much, and its square, are infinite
            Kit.does(x, 21, 1, 0);
            Kit.does(x, 1, 2, 44);
            Kit.does(x, 6, 3, 3);
            if (bytes[0] == 9) {
                Kit.levels(x, 96);
            }
            if (bytes[0] == 25) {
                Kit.serve(x, 3, 200, 256);
                x.pend(3);
                x.till(3);
                Kit.does(x, 11, 1, 0);
            }
            String before = registers(x);
            int done = x.count(10);
            int clock = x.count(0);
            int pc = x.state(4);
            for (int i = 0; i < bytes.length; i++) {
                Kit.putByte(x, pc + i, bytes[i]);
            }
            x.run(1);
            int fault = bytes[0] == 9 || bytes[0] == 10 || bytes[0] == 26 ? 19 : 18;
            Kit.dueEvent(24, x, 0, 3, fault, clock + 1, pc);
            Kit.due(13, bytes[0] + ": it alone is pending", x.state(13), fault);
            Kit.due(13, bytes[0] + ": done", x.count(10), done);
            Kit.due(13, bytes[0] + ": 1 cycle", x.state(2), 0);
            x.clear(fault);
            Kit.due(13, bytes[0] + ": nothing is changed", registers(x).equals(before), true);
            x.pend(fault);
            x.run(1);
            Kit.due(13, bytes[0] + ": it is stacked for at once", x.state(0), 1);
        }
    }

    /** Behind 21 and 22 FLOATS is 1, but not if they raise. */
    private static void infiniteOnesLeaveFloats() {
        for (int op = 21; op <= 22; op++) {
            RankEntry x = new RankEntry();
            Kit.does(x, 20, 0, 64);
            for (int i = 0; i < 5; i++) {
                Kit.does(x, 22, 0, 0);
            }
            // 2 to the power of 64; twice that is none too large, so for 21 it goes up to the last power
            for (int i = 0; i < 63 && op == 21; i++) {
                Kit.does(x, 21, 0, 0);
            }
            Kit.serve(x, 3, 90, 256, 18);
            x.enable(18, true);
            x.rank(18, 9);
            x.pend(3);
            x.till(3);
            Kit.put(x, 256, op, 0, 0);
            x.run(4);
            Kit.due(13, op + ": saved first", x.count(5), 1);
            Kit.due(13, op + ": not raised yet", x.count(7), 0);
            x.run(1);
            Kit.due(13, op + ": raised", x.count(7), 1);
            Kit.due(13, op + ": FLOATS", x.state(10), 0);
            Kit.due(13, op + ": state(4)", x.state(4), 256);
            Kit.due(13, op + ": F0", Kit.reg(x, 8), op == 21 ? 0x7F000000 : 0x5F800000);
        }
    }

    /** "Ahead of 20 to 24, if LAZY is there: the PHASE is SAVING, its first step is now, and the INSTRUCTION is not done" */
    private static void savesAheadOfSingles() {
        for (int op = 0; op < 32; op++) {
            RankEntry x = new RankEntry();
            Kit.does(x, 1, 3, 5);
            Kit.does(x, 20, 0, 64);
            Kit.serve(x, 3, 90, 256, 18);
            x.pend(3);
            x.till(3);
            int done = x.count(10);
            Kit.put(x, 256, op, 2, 3);
            x.run(1);
            boolean saves = op >= 20 && op <= 24;
            Kit.due(13, op + ": state(0)", x.state(0), saves ? 4 : op == 18 ? 3 : 0);
            Kit.due(13, op + ": state(1)", x.state(1), saves ? 1 : 0);
            Kit.due(13, op + ": count(10)", x.count(10), saves || op == 0 || op > 29 ? done : done + 1);
            Kit.due(13, op + ": word(0)", Kit.word(x, 0), saves ? Float.floatToIntBits(4f) : 0);
            if (saves) {
                x.run(3);
                Kit.due(13, op + ": state(4) stays", x.state(4), 256);
                Kit.due(13, op + ": FLOATS", x.state(10), 0);
                Kit.due(13, op + ": STALL", x.state(2), 0);
                x.run(1);
                Kit.due(13, op + ": state(4)", x.state(4), 259);
                Kit.due(13, op + ": FLOATS", x.state(10), 1);
                Kit.due(13, op + ": count(10)", x.count(10), done + 1);
                Kit.due(13, op + ": STALL", x.state(2), op == 21 ? 1 : op == 22 ? 2 : 0);
            } else {
                Kit.due(13, op + ": state(11) stays", x.state(11), 0);
                Kit.due(13, op + ": FLOATS", x.state(10), 0);
            }
        }
    }

    /** "Rx = Fy, cut (beyond the ints: the last of them)" */
    private static void beyondTheInts() {
        int[] bits = {0x4EFFFFFF, 0x4F000000, 0x4F000001, 0x7F7FFFFF, 0xCEFFFFFF, 0xCF000000, 0xCF000001, 0xFF7FFFFF,
            0x3F7FFFFF, 0xBF7FFFFF, 0x3FC00000, 0xBFC00000, 0, 0x80000000, 1, 0x80000001};
        int[] ints = {2147483520, MAX, MAX, MAX, -2147483520, MIN, MIN, MIN, 0, 0, 1, -1, 0, 0, 0, 0};
        for (int i = 0; i < bits.length; i++) {
            RankEntry x = Kit.idle();
            Kit.serve(x, 3, 90, 256, 18);
            x.pend(3);
            x.till(3);
            Kit.levels(x, 0);
            Kit.pushes(x, bits[i]);
            Kit.levels(x, 8);
            Kit.does(x, 11, 1, 64);
            Kit.pushes(x, 400);
            Kit.pushes(x, 23044);
            Kit.does(x, 18);
            x.run(10);
            Kit.due(16, "reg(8)", Kit.reg(x, 8), bits[i]);
            Kit.does(x, 23, 2, 0);
            Kit.due(13, "23: " + Integer.toHexString(bits[i]), Kit.reg(x, 2), ints[i]);
        }
    }

    /** "the innermost is ACTIVE no more", and none but it. */
    private static void returnEndsTheInnermost() {
        RankEntry x = Kit.idle();
        for (int i = 0; i < 5; i++) {
            Kit.serve(x, i, 100 - 10 * i, 256, 11, 1, 0);
            x.pend(i);
            x.till(i);
        }
        for (int i = 4; i >= 0; i--) {
            Kit.does(x, 18);
            Kit.due(23, "count(11)", x.count(11), i);
            Kit.due(20, "source(" + i + ", 4)", x.source(i, 4), 0);
            Kit.due(21, "nest(" + i + ")", x.nest(i), -1);
            Kit.due(22, "state(12)", x.state(12), i == 0 ? 256 : 100 - 10 * (i - 1));
            Kit.due(24, "the ended one", Kit.event(x, 0, 1), i);
            x.run(6);
            Kit.dueEvent(24, x, 0, 5, i - 1, x.count(0), 6 * i);
        }
        Kit.tries(x, 18);
        Kit.due(13, "18: none is active", x.count(7), 1);
    }
}
