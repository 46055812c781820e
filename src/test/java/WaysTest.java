/** Promises 34 to 36: the ways through the code. */
public final class WaysTest {
    private static final int MIN = Integer.MIN_VALUE;
    private static final int MAX = Integer.MAX_VALUE;

    public static void main(String[] args) {
        costs();
        branches();
        open();
        pushes();
        longWays();
        anew();
        others();
        room();
        Kit.end("WaysTest");
    }

    private static RankEntry at64(int... bytes) {
        RankEntry x = Kit.with(64, bytes);
        x.vector(3, 64);
        return x;
    }

    private static void due(String what, int cost, int pushes, int... bytes) {
        RankEntry x = at64(bytes);
        Kit.due(34, what + ": cost", x.cost(3), cost);
        Kit.due(35, what + ": pushes", x.pushes(3), pushes);
    }

    private static void costs() {
        int[] lengths = {0, 3, 3, 3, 3, 3, 3, 3, 3, 2, 2, 3, 3, 3, 2, 2, 2, 2, 1, 1, 3, 3, 3, 3, 3, 3, 2, 2, 3, 3};
        int[] cycles = {0, 1, 1, 1, 2, 4, 1, 1, 1, 1, 1, 1, 1, 1, 1, 1, 1, 1, 1, 1, 1, 2, 3, 1, 1, 1, 1, 1, 1, 1};
        for (int op = 1; op < 30; op++) {
            int[] bytes = {op, 0, 64 + lengths[op], 18};
            bytes[lengths[op]] = 18;
            if (op == 18) {
                due("18 alone", 1, 0, 18);
            } else if (op == 19) {
                due("19 is open", -1, -1, bytes);
            } else {
                due("the instruction " + op, cycles[op] + 1, op == 9 ? 1 : 0, bytes);
            }
        }
        due("a sum", 4 + 2 + 3 + 2 + 1, 0, 5, 0, 0, 4, 0, 0, 22, 0, 0, 21, 0, 0, 18);
    }

    private static void branches() {
        // a short way (12 to the end) and a long one
        due("12, the next one is longer", 6, 0, 12, 0, 70, 5, 0, 0, 18);
        due("12, the place is longer", 6, 0, 12, 0, 68, 18, 5, 0, 0, 18);
        due("13, the next one is longer", 6, 0, 13, 0, 70, 5, 0, 0, 18);
        due("13, both the same", 2, 0, 13, 0, 67, 18);
        due("11, what is between is not there", 2, 0, 11, 0, 68, 0, 18);
        due("a place is met by two ways", 8, 0, 12, 0, 71, 1, 0, 0, 18, 5, 0, 0, 11, 0, 67);
        RankEntry x = Kit.with(510, 1, 0);
        Kit.put(x, 0, 5, 9, 3, 18);
        x.vector(3, 510);
        Kit.due(34, "around the end", x.cost(3), 3);
        Kit.due(35, "around the end: one pushed", x.pushes(3), 1);
        RankEntry y = Kit.with(511, 11);
        Kit.put(y, 0, 2, 100);
        Kit.put(y, 100, 18);
        y.vector(3, 511);
        Kit.due(34, "a place modulo 512", y.cost(3), 2);
    }

    private static void open() {
        due("a place twice", -1, -1, 11, 0, 64);
        due("a place twice by 12", -1, -1, 12, 0, 64, 18);
        due("a place twice by the far way of 13", -1, -1, 1, 0, 0, 13, 0, 71, 18, 11, 0, 64);
        due("0", -1, -1, 1, 0, 0, 0);
        due("30", -1, -1, 30);
        due("255", -1, -1, 9, 0, 255);
        due("19 on one way", -1, -1, 12, 0, 68, 18, 19);
        due("no instruction on one way", -1, -1, 12, 0, 68, 18, 77);
        due("19 behind the end", 1, 0, 18, 19);
        due("two loops apart", -1, -1, 12, 0, 70, 11, 0, 67, 11, 0, 70);
        RankEntry x = new RankEntry();
        for (int at = 0; at < 504; at += 2) {
            Kit.put(x, at, 14, 0);
        }
        x.vector(3, 0);
        Kit.put(x, 504, 14, 0, 14, 0, 14, 0, 14, 0);
        Kit.due(34, "once around", x.cost(3), -1);
    }

    private static void pushes() {
        due("two", 3, 2, 9, 0, 9, 1, 18);
        due("one off again", 5, 2, 9, 0, 9, 1, 10, 1, 10, 0, 18);
        due("off first: never more", 3, 0, 10, 0, 9, 0, 18);
        due("off first, then two", 4, 1, 10, 0, 9, 0, 9, 0, 18);
        due("only off", 3, 0, 10, 0, 10, 0, 18);
        due("the other way has more", 4, 2, 12, 0, 68, 18, 9, 0, 9, 0, 18);
        due("the next one has more", 4, 2, 12, 0, 71, 9, 0, 9, 0, 18);
        due("the cost of one, the pushes of another", 10, 3, 12, 0, 74, 5, 0, 0, 5, 0, 0, 18, 9, 0, 9, 0, 9, 0, 18);
        due("at a point, not at the end", 6, 2, 9, 0, 9, 0, 10, 0, 10, 0, 10, 0, 18);
    }

    private static void longWays() {
        // 510 places of a byte each can't be: the longest has two bytes each
        RankEntry x = new RankEntry();
        for (int at = 0; at < 512; at += 8) {
            Kit.put(x, at, 9, 0, 9, 0, 9, 0, at == 504 ? 18 : 9, 0);
        }
        Kit.due(34, "cost(0), 255 and the end", x.cost(0), 256);
        Kit.due(35, "pushes(0)", x.pushes(0), 255);
        x.vector(1, 1);
        Kit.due(34, "cost(1), x is no instruction", x.cost(1), -1);
        // 12 at each place, to the next but one: very many ways
        RankEntry y = new RankEntry();
        for (int at = 0; at < 480; at += 3) {
            int to = at + 6;
            Kit.put(y, at, at % 2 == 0 ? 12 : 13, to / 256, to % 256);
        }
        Kit.put(y, 480, 9, 0, 18, 9, 0, 18);
        y.vector(1, 0);
        Kit.put(y, 483, 18);
        Kit.due(34, "cost(1), 160 branches", y.cost(1), 162);
        Kit.due(35, "pushes(1)", y.pushes(1), 1);
    }

    /** What was measured ahead of a change, or on a way that was open, is not used again. */
    private static void anew() {
        RankEntry x = at64(1, 0, 0, 9, 0, 18);
        Kit.due(34, "cost(3)", x.cost(3), 3);
        Kit.put(x, 69, 5, 0, 0, 9, 0, 18);
        Kit.due(34, "cost(3), loaded anew", x.cost(3), 8);
        Kit.due(35, "pushes(3), loaded anew", x.pushes(3), 2);
        Kit.put(x, 69, 19);
        Kit.due(34, "cost(3), open now", x.cost(3), -1);
        Kit.put(x, 69, 18);
        x.vector(4, 67);
        Kit.due(34, "cost(4), a part of it", x.cost(4), 2);
        Kit.put(x, 100, 12, 0, 107, 1, 0, 0, 18, 19);
        x.vector(5, 100);
        x.vector(6, 103);
        Kit.due(34, "cost(5), open", x.cost(5), -1);
        Kit.due(34, "cost(6), a part that is not", x.cost(6), 2);
        Kit.put(x, 110, 1, 0, 0, 11, 0, 110);
        x.vector(7, 110);
        Kit.due(34, "cost(7), open", x.cost(7), -1);
        Kit.put(x, 113, 18);
        Kit.due(34, "cost(7), an end now", x.cost(7), 2);
    }

    private static void others() {
        RankEntry x = Kit.with(0, 18);
        for (int source : new int[] {-1, 21, MIN, MAX}) {
            Kit.due(34, "cost(" + source + ")", x.cost(source), -1);
            Kit.due(35, "pushes(" + source + ")", x.pushes(source), -1);
        }
        for (int source = 0; source < 21; source++) {
            Kit.due(34, "cost(" + source + ")", x.cost(source), 1);
            Kit.due(35, "pushes(" + source + ")", x.pushes(source), 0);
        }
    }

    private static void room() {
        RankEntry x = Kit.with(0, 18);
        Kit.put(x, 64, 9, 0, 18);
        Kit.put(x, 72, 9, 0, 9, 0, 9, 0, 18);
        Kit.put(x, 80, 19);
        Kit.due(36, "room(false), HARD alone", x.room(false), 6);
        Kit.due(36, "room(true), HARD alone", x.room(true), 10);
        x.vector(1, 64);
        x.rank(1, 40);
        x.vector(2, 72);
        x.rank(2, 43);
        x.vector(3, 80);
        x.rank(3, 50);
        Kit.due(36, "room(false), not enabled", x.room(false), 6);
        x.enable(1, true);
        x.enable(2, true);
        Kit.due(36, "room(false), two groups", x.room(false), 6 + 6 + 1 + 6 + 3);
        Kit.due(36, "room(true), two groups", x.room(true), 10 + 10 + 1 + 10 + 3);
        x.split(1);
        Kit.due(36, "room(false), two groups still", x.room(false), 22);
        x.split(2);
        Kit.due(36, "room(false), one group: the most", x.room(false), 6 + 6 + 3);
        x.vector(1, 72);
        x.vector(2, 64);
        Kit.due(36, "room(false), the most of the first", x.room(false), 15);
        x.vector(20, 64);
        Kit.due(36, "room(true), HARD's too", x.room(true), 10 + 1 + 10 + 3);
        x.enable(3, true);
        Kit.due(36, "room(false), one is open", x.room(false), -1);
        Kit.due(36, "room(true), one is open", x.room(true), -1);
        x.enable(3, false);
        x.vector(20, 80);
        Kit.due(36, "room(false), HARD is open", x.room(false), -1);
        RankEntry y = Kit.with(0, 9, 0, 18);
        for (int i = 0; i < 20; i++) {
            y.enable(i, true);
            y.rank(i, 12 * i);
        }
        Kit.due(36, "room(true), 21 groups", y.room(true), 231);
        y.split(7);
        Kit.due(36, "room(true), 3 groups", y.room(true), 33);
        y.rank(0, 1);
        y.split(0);
        y.rank(0, 0);
        Kit.due(36, "room(false): the group 0 is not HARD's", y.room(false), 147);
    }
}
