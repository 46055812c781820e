import java.util.Random;

/** The boundary cases of the document's fourth term, and of promises 26 to 36: PLAIN, QUIET, what is foretold, WAYS. */
public final class ForesightEdgesTest {
    private static final int ALL_OF_20 = (1 << 20) - 1;

    public static void main(String[] args) {
        aheadAsNext();
        splitsAsSplit();
        escalatesInEveryScene();
        soonAtTheLastCycle();
        orderAtTheLastCycle();
        quietNow();
        quietAtTheLastCycle();
        plainReturns();
        plainIsNeverAbandoned();
        plainFirstOrNext();
        plainFaultsChain();
        windowOfEachDelay();
        windowOf40();
        windowBehindALock();
        keepsOnlyIf();
        keepsWhenLonger();
        foretellingOfALocked();
        waysByEveryWay();
        longestWay();
        openWays();
        roomOfGroups();
        Kit.end("ForesightEdgesTest");
    }

    /** "Whether of two unlike SOURCES the first would be NEXT, if the two CAN and no others do" */
    private static void aheadAsNext() {
        Random random = new Random(7);
        for (int n = 0; n < 40; n++) {
            RankEntry x = new RankEntry();
            x.split(n % 8);
            for (int i = 0; i < 20; i++) {
                x.rank(i, n < 8 ? i / 2 : random.nextInt(n < 24 ? 256 : 4));
                x.enable(i, true);
            }
            for (int one = 0; one < 20; one++) {
                x.pend(one);
                for (int other = 0; other < 20; other++) {
                    boolean was = x.pend(other);
                    boolean next = one != other && x.state(13) == one;
                    Kit.due(26, "ahead(" + one + ", " + other + ")", x.ahead(one, other), next);
                    if (was) {
                        x.clear(other);
                    }
                }
                x.clear(one);
                Kit.due(26, "ahead(20, " + one + ")", x.ahead(20, one), true);
                Kit.due(26, "ahead(" + one + ", 20)", x.ahead(one, 20), false);
            }
        }
        RankEntry y = new RankEntry();
        y.rank(3, 9);
        Kit.does(y, 16, 1);
        Kit.due(26, "ahead(3, 4): neither is pending, nor enabled, nor CAN", y.ahead(3, 4), true);
    }

    /** "By which SPLITS (as bits) a SOURCE's GROUP would be less than the LIMIT, all else as now" */
    private static void splitsAsSplit() {
        int[] bases = {0, 1, 2, 3, 64, 127, 128, 129, 255};
        int[] ranks = {0, 1, 2, 63, 64, 126, 127, 128, 129, 254, 255};
        for (int base : bases) {
            for (int rank : ranks) {
                RankEntry x = new RankEntry();
                Kit.does(x, 17, base);
                x.rank(5, rank);
                x.split(3);
                int bits = x.splits(5);
                int hard = x.splits(20);
                int want = 0;
                for (int split = 0; split < 8; split++) {
                    x.split(split);
                    want += x.source(5, 6) < x.state(12) ? 1 << split : 0;
                }
                Kit.due(27, "splits(5), rank " + rank + ", BASE " + base, bits, want);
                Kit.due(27, "splits(20), BASE " + base, hard, 255);
                Kit.does(x, 16, 1);
                Kit.due(27, "splits(5), SHUT", x.splits(5), 0);
                Kit.due(27, "splits(20), SHUT", x.splits(20), 255);
            }
        }
        for (int rank : ranks) {
            RankEntry y = Kit.idle();
            Kit.serve(y, 3, 128, 256, 11, 1, 0);
            y.split(7);
            y.pend(3);
            y.till(3);
            y.rank(5, rank);
            int want = 0;
            for (int split = 0; split < 8; split++) {
                want += rank >> split < 128 >> split ? 1 << split : 0;
            }
            Kit.due(27, "splits(5), rank " + rank + ", 128 is active", y.splits(5), want);
        }
    }

    /** "That which would BECOME PENDING, if a FAULT were RAISED now; -2: it would be LOCKED (it is)" */
    private static void escalatesInEveryScene() {
        for (int scene = 1; scene < Scenes.ALL; scene++) {
            for (int fault = 18; fault < 20; fault++) {
                RankEntry x = Scenes.of(scene);
                String what = "scene " + scene + ": escalates(" + fault + "), ";
                boolean locked = scene == Scenes.LOCKED;
                int hard = locked ? -2 : 20;
                int limit = x.state(12);
                Kit.due(28, what + "not enabled", x.escalates(fault), hard);
                x.enable(fault, true);
                Kit.due(28, what + "rank(), of the LIMIT", x.rank(fault, 4 * limit), !locked);
                Kit.due(28, what + "of the LIMIT", x.escalates(fault), hard);
                Kit.due(28, what + "rank(), below the LIMIT", x.rank(fault, 4 * limit - 1), !locked);
                Kit.due(28, what + "below the LIMIT", x.escalates(fault), locked ? -2 : fault);
            }
        }
        RankEntry y = new RankEntry();
        y.enable(18, true);
        Kit.due(28, "escalates(18), the rank 255", y.escalates(18), 18);
        Kit.due(28, "escalates(19), not enabled", y.escalates(19), 20);
    }

    /** "How many CYCLES from now a SOURCE BEGINS, 300 at most; NONE: not by then" */
    private static void soonAtTheLastCycle() {
        for (int more = 293; more < 298; more++) {
            RankEntry x = Kit.idle();
            Kit.serve(x, 3, 9, 256, 18);
            x.arrive(3, more);
            int want = more + 5 <= 300 ? more + 5 : -1;
            Kit.due(29, "soon(3), it comes in " + more, x.soon(3), want);
            Kit.due(14, "till(3), it comes in " + more, x.till(3), want);
            Kit.due(14, "count(0)", x.count(0), want == -1 ? 300 : want);
        }
        RankEntry y = Kit.idle();
        Kit.serve(y, 3, 9, 256, 18);
        y.pend(3);
        y.run(5);
        Kit.due(29, "soon(3), in the next cycle", y.soon(3), 1);
        y.run(1);
        Kit.due(29, "soon(3), it has begun just now", y.soon(3), -1);
        Kit.due(14, "till(3), one at least", y.till(3), -1);
    }

    /** "The i-th (from 0) that BEGINS from now on, within 300 CYCLES" */
    private static void orderAtTheLastCycle() {
        for (int more = 293; more < 298; more++) {
            RankEntry x = Kit.idle();
            Kit.serve(x, 3, 9, 256, 18);
            Kit.serve(x, 4, 9, 256);
            x.pend(4);
            x.arrive(3, more);
            int want = more + 5 <= 300 ? 3 : -1;
            Kit.due(30, "order(0, false)", x.order(0, false), 4);
            Kit.due(30, "order(1, false), it comes in " + more, x.order(1, false), want);
            Kit.due(30, "order(1, true), it comes in " + more, x.order(1, true), want);
            Kit.due(30, "order(2, false)", x.order(2, false), -1);
        }
    }

    /** "QUIET: the PHASE is RUN, none is ACTIVE, there is no NEXT", "(0: now)" */
    private static void quietNow() {
        // stacked in 3, one cycle, six back; chained in 1; four steps left; two, 20, 18, ten back; twice 18 and six
        int[] want = {0, 0, 0, 3 + 1 + 6, 1 + 1 + 6, 4, 2 + 1 + 1 + 10, -1, 1 + 6 + 1 + 6};
        for (int scene = 0; scene < Scenes.ALL; scene++) {
            RankEntry x = Scenes.of(scene);
            Kit.due(31, "scene " + scene + ": quiet(false)", x.quiet(false), want[scene]);
            Kit.due(31, "scene " + scene + ": quiet(true)", x.quiet(true), want[scene]);
        }
        RankEntry y = Kit.idle();
        Kit.serve(y, 3, 9, 256, 18);
        y.pend(3);
        int[] left = {13, 12, 11, 10, 9, 8, 7, 6, 5, 4, 3, 2, 1, 0};
        for (int i = 0; i < 14; i++) {
            Kit.due(31, "quiet(false) at " + i, y.quiet(false), left[i]);
            Kit.due(31, "quiet(true) at " + i, y.quiet(true), left[i]);
            y.run(1);
        }
        RankEntry z = Kit.idle();
        z.pend(3);
        Kit.due(31, "quiet(false), it is not enabled", z.quiet(false), 0);
        z.enable(3, true);
        Kit.put(z, 0, 18);
        Kit.due(31, "quiet(false), it is enabled now, and begins at 0", z.quiet(false), 13);
    }

    /** "After how many CYCLES it is QUIET, 300 at most", of both machines. */
    private static void quietAtTheLastCycle() {
        for (int more = 3; more < 10; more++) {
            RankEntry x = Kit.idle();
            int[] code = new int[3 * (94 + more) + 1];
            for (int i = 0; i < 94 + more; i++) {
                code[3 * i] = i < 94 ? 22 : 1;
            }
            code[3 * (94 + more)] = 18;
            Kit.serve(x, 3, 9, 100, code);
            int cost = 3 * 94 + more + 1;
            int due = 6 + cost + 6;
            Kit.due(34, "cost(3)", x.cost(3), cost);
            x.pend(3);
            Kit.due(31, "quiet(false), due at " + due, x.quiet(false), due <= 300 ? due : -1);
            Kit.due(31, "quiet(true), due at " + due, x.quiet(true), due <= 300 ? due : -1);
            x.run(1);
            Kit.due(31, "quiet(false), a cycle on", x.quiet(false), due <= 301 ? due - 1 : -1);
        }
    }

    /** "at RETURN the PHASE is always UNSTACKING" */
    private static void plainReturns() {
        RankEntry x = Kit.idle();
        Kit.serve(x, 3, 90, 256, 18);
        Kit.serve(x, 4, 90, 256);
        x.pend(3);
        x.pend(4);
        // 3 at 6, it ends at 7; chained: 4 at 9, it ends at 10, quiet at 16; plain: back at 13, 4 at 19, 20, 26
        Kit.due(31, "quiet(false)", x.quiet(false), 16);
        Kit.due(31, "quiet(true)", x.quiet(true), 26);
        x.run(7);
        Kit.due(31, "quiet(true), it is chaining already", x.quiet(true), 2 + 1 + 6);
    }

    /** "that is never ABANDONED": at each step of it. */
    private static void plainIsNeverAbandoned() {
        for (int at = 8; at <= 15; at++) {
            RankEntry x = Kit.idle();
            Kit.serve(x, 3, 90, 256, 18);
            Kit.serve(x, 4, 90, 256);
            x.pend(3);
            x.arrive(4, at);
            x.run(1);
            // it is unstacked at 13; what comes by 13 is chained by this machine, and stacked for by the other
            int chained = at + 1 + 1 + 6 - 1;
            int stacked = Math.max(at, 14) + 5 + 1 + 6 - 1;
            Kit.due(31, "quiet(false), it comes at " + at, x.quiet(false), at <= 13 ? chained : 12);
            Kit.due(31, "quiet(true), it comes at " + at, x.quiet(true), at <= 13 ? stacked : 12);
        }
    }

    /** "behind STACKING the FIRST BEGINS, if it CAN, else NEXT" */
    private static void plainFirstOrNext() {
        for (int step = 0; step <= 5; step++) {
            RankEntry x = Kit.idle();
            Kit.serve(x, 3, 90, 256, 18);
            Kit.serve(x, 4, 80, 256);
            x.pend(3);
            x.run(step);
            x.pend(4);
            Kit.due(30, "order(0, false) behind " + step, x.order(0, false), 4);
            Kit.due(30, "order(0, true) behind " + step, x.order(0, true), step == 0 ? 4 : 3);
            x.enable(3, false);
            Kit.due(30, "order(0, true), the first can't", x.order(0, true), 4);
            x.enable(3, true);
            x.clear(3);
            Kit.due(30, "order(0, true), the first is not pending", x.order(0, true), 4);
            x.clear(4);
            Kit.due(30, "order(0, true), none", x.order(0, true), -1);
            Kit.due(31, "quiet(true), none: unstacked", x.quiet(true), step == 0 ? 0 : 6 - step + 6);
        }
    }

    /** The PLAIN machine, too, chains behind what is RAISED in UNSTACKING. */
    private static void plainFaultsChain() {
        RankEntry x = Kit.idle();
        Kit.serve(x, 3, 90, 256, 10, 7, 18);
        Kit.serve(x, 19, 90, 300, 9, 7, 18);
        x.pend(3);
        // 6, 7, 8; raised at 9, chained at 11, 12, 13; unstacked at 19
        Kit.due(30, "order(1, true)", x.order(1, true), 19);
        Kit.due(31, "quiet(true)", x.quiet(true), 19);
        Kit.due(31, "quiet(false)", x.quiet(false), 19);
        Kit.due(33, "keeps()", x.keeps(), 1);
    }

    /** "For each d of 0 to 19 whether, if a SOURCE BECOMES PENDING behind d more CYCLES, it is the next to BEGIN" */
    private static void windowOfEachDelay() {
        for (int at = 1; at <= 30; at++) {
            RankEntry x = Kit.idle();
            Kit.serve(x, 3, 90, 256, 18);
            Kit.serve(x, 4, 95, 256);
            x.arrive(3, at);
            // 4 would begin at d + 6: it is next if 3, whose rank is less, is not there yet or has begun, at + 5
            int want = 0;
            for (int d = 0; d < 20; d++) {
                want |= d + 6 < at || d >= at + 5 ? 1 << d : 0;
            }
            Kit.due(32, "window(4), 3 comes at " + at, x.window(4), want);
        }
        RankEntry y = Kit.idle();
        Kit.serve(y, 3, 90, 256, 18);
        Kit.due(32, "window(3), all of 20", y.window(3), ALL_OF_20);
        Kit.due(32, "window(17), not enabled", y.window(17), 0);
        y.enable(17, true);
        Kit.put(y, 0, 11, 0, 0);
        Kit.due(32, "window(17)", y.window(17), ALL_OF_20);
        Kit.due(32, "window(0), not enabled", y.window(0), 0);
    }

    /** "(within 40 CYCLES)" */
    private static void windowOf40() {
        for (int stay = 30; stay < 50; stay++) {
            RankEntry x = Kit.idle();
            int[] code = new int[3 * stay + 1];
            for (int i = 0; i < stay; i++) {
                code[3 * i] = 1;
            }
            code[3 * stay] = 18;
            Kit.serve(x, 3, 90, 256, code);
            Kit.serve(x, 4, 90, 511);
            x.pend(3);
            x.till(3);
            // 3 ends in stay + 1 cycles, 4 of the same rank is chained two later
            int begins = stay + 3;
            int want = 0;
            for (int d = 0; d < 20; d++) {
                want |= begins - d <= 40 ? 1 << d : 0;
            }
            Kit.due(32, "window(4), it begins in " + begins, x.window(4), want);
        }
    }

    /** A machine that will lock, or is LOCKED: none begins any more. */
    private static void windowBehindALock() {
        RankEntry x = new RankEntry();
        x.enable(3, true);
        x.vector(3, 256);
        x.rank(3, 9);
        x.run(1);
        // HARD begins at 7 and locks at 8, whatever comes: it is the next to begin till then
        Kit.due(32, "window(3), it will lock", x.window(3), 0);
        x.run(200);
        Kit.due(32, "window(3), locked", x.window(3), 0);
    }

    /** "If the PHASE is RUN, STALL 0 and there is a NEXT" */
    private static void keepsOnlyIf() {
        for (int scene = 0; scene < Scenes.ALL; scene++) {
            RankEntry x = Scenes.of(scene);
            Kit.due(33, "scene " + scene + ": keeps(), there is no NEXT, or no RUN", x.keeps(), -1);
            x.enable(6, true);
            x.rank(6, 1);
            x.vector(6, 80);
            x.pend(6);
            boolean runs = scene == 0 || scene == Scenes.ASLEEP || scene == Scenes.NESTED;
            if (scene == 0) {
                Kit.put(x, 80, 18);
            }
            Kit.due(33, "scene " + scene + ": keeps(), there is", x.keeps(), runs ? 1 : -1);
        }
    }

    /** "as soon as the PHASE is RUN and the NEST, having been longer, is again as long as now" */
    private static void keepsWhenLonger() {
        RankEntry x = Kit.idle();
        Kit.serve(x, 3, 90, 256, 26, 3, 18);
        Kit.put(x, 3, 11, 0, 3);
        Kit.serve(x, 4, 90, 264, 26, 253, 26, 255, 26, 1, 18);
        x.pend(3);
        Kit.due(33, "keeps(): PC is 3 more", x.keeps(), 0);
        x.pend(4);
        // chained, 4 adds 509 to the same frame: the place is 0 again
        Kit.due(33, "keeps(): chained ones together keep it", x.keeps(), 1);
        RankEntry y = Kit.idle();
        Kit.serve(y, 3, 90, 256, 18);
        Kit.serve(y, 4, 90, 264, 26, 3, 18);
        y.pend(3);
        y.arrive(4, 14);
        Kit.due(33, "keeps(): as soon as it is so, not later", y.keeps(), 1);
        y.arrive(4, 13);
        Kit.due(33, "keeps(): it is abandoned, so it is not so yet", y.keeps(), 0);
        // the first is taken back by nobody: the nest is never longer
        RankEntry z = Kit.idle();
        Kit.serve(z, 3, 90, 256, 11, 1, 0);
        Kit.serve(z, 4, 80, 264, 18);
        z.pend(3);
        z.till(3);
        z.pend(4);
        Kit.due(33, "keeps(), nested", z.keeps(), 1);
        Kit.put(z, 264, 26, 1, 18);
        Kit.due(33, "keeps(), nested, PC is 1 more", z.keeps(), 0);
    }

    /** "What is foretold .. changes nothing": nor does it on a LOCKED machine, where none begins. */
    private static void foretellingOfALocked() {
        RankEntry x = Scenes.of(Scenes.LOCKED);
        String before = Kit.seen(x);
        for (int i = 0; i < 21; i++) {
            Kit.due(29, "soon(" + i + ")", x.soon(i), -1);
            Kit.due(32, "window(" + i + ")", x.window(i), i < 18 ? 0 : -1);
        }
        Kit.due(30, "order(0, false)", x.order(0, false), -1);
        Kit.due(30, "order(0, true)", x.order(0, true), -1);
        Kit.due(31, "quiet(false)", x.quiet(false), -1);
        Kit.due(31, "quiet(true)", x.quiet(true), -1);
        Kit.due(33, "keeps()", x.keeps(), -1);
        Kit.due(30, "nothing is changed", Kit.seen(x).equals(before), true);
    }

    // ---- ways ----

    private static final int MOST_STEPS = 200000;
    private static int stepsGone;
    private static int mostCost;
    private static int mostPushes;
    private static boolean isOpen;

    /** Each WAY is gone by itself, to its end. */
    private static void waysByEveryWay() {
        Random random = new Random(11);
        int closed = 0;
        int open = 0;
        for (int n = 0; n < 3000; n++) {
            int from = random.nextInt(512);
            int[] code = randomCode(random, from);
            RankEntry x = new RankEntry();
            Kit.put(x, 0, code);
            x.vector(7, from);
            stepsGone = 0;
            mostCost = 0;
            mostPushes = 0;
            isOpen = false;
            go(code, from, new boolean[512], 0, 0);
            if (stepsGone > MOST_STEPS) {
                continue;
            }
            Kit.due(34, "cost(7) of " + n, x.cost(7), isOpen ? -1 : mostCost);
            Kit.due(35, "pushes(7) of " + n, x.pushes(7), isOpen ? -1 : mostPushes);
            open += isOpen ? 1 : 0;
            closed += isOpen ? 0 : 1;
        }
        Kit.due(34, "many are open", open > 300, true);
        Kit.due(34, "many are not", closed > 300, true);
    }

    private static int lengthOf(int op) {
        boolean isTwo = op == 9 || op == 10 || op >= 14 && op <= 17 || op == 26 || op == 27;
        return op == 18 || op == 19 || op == 0 ? 1 : isTwo ? 2 : 3;
    }

    /** Code from a place on, with jumps that mostly go ahead; behind it 18 at every place. */
    private static int[] randomCode(Random random, int start) {
        int[] code = new int[512];
        java.util.Arrays.fill(code, 18);
        int end = 20 + random.nextInt(60);
        for (int at = 0; at < end;) {
            int op = random.nextInt(60) == 0 ? 0 : 1 + random.nextInt(29);
            op = op == 19 && random.nextInt(4) > 0 ? 11 : op;
            op = random.nextInt(3) == 0 ? 9 + random.nextInt(2) : random.nextInt(3) == 0 ? 12 + random.nextInt(2) : op;
            int here = start + at;
            int to = (here + (random.nextInt(12) == 0 ? 505 : 3) + random.nextInt(12)) % 512;
            boolean jumps = op >= 11 && op <= 13;
            code[here % 512] = op;
            code[(here + 1) % 512] = jumps ? to / 256 + 2 * random.nextInt(128) : random.nextInt(256);
            code[(here + 2) % 512] = jumps ? to % 256 : random.nextInt(256);
            at += lengthOf(op);
        }
        return code;
    }

    private static void go(int[] code, int at, boolean[] been, int cost, int pushed) {
        int op = code[at];
        stepsGone++;
        if (op == 0 || op > 29 || op == 19 || been[at]) {
            isOpen = true;
        }
        if (isOpen || stepsGone > MOST_STEPS) {
            return;
        }
        int cycles = op == 5 ? 4 : op == 22 ? 3 : op == 4 || op == 21 ? 2 : 1;
        int sum = cost + cycles;
        int more = pushed + (op == 9 ? 1 : op == 10 ? -1 : 0);
        mostPushes = Math.max(mostPushes, more);
        mostCost = Math.max(mostCost, sum);
        if (op == 18) {
            return;
        }
        been[at] = true;
        if (op >= 11 && op <= 13) {
            go(code, (256 * code[(at + 1) % 512] + code[(at + 2) % 512]) % 512, been, sum, more);
        }
        if (op != 11) {
            go(code, (at + lengthOf(op)) % 512, been, sum, more);
        }
        been[at] = false;
    }

    /** All of the CODE on one WAY: 170 divisions and the end; as many pushes as there is code for. */
    private static void longestWay() {
        RankEntry x = new RankEntry();
        for (int i = 0; i < 170; i++) {
            Kit.put(x, 3 * i, 5, 0, 0);
        }
        Kit.put(x, 510, 18);
        Kit.due(34, "cost(0)", x.cost(0), 681);
        Kit.put(x, 510, 9, 18);
        Kit.due(34, "cost(0), 9 takes the last byte with it", x.cost(0), -1);
        RankEntry y = new RankEntry();
        for (int at = 0; at < 510; at += 2) {
            Kit.put(y, at, 9, 0);
        }
        Kit.put(y, 510, 18);
        Kit.due(35, "pushes(0)", y.pushes(0), 255);
        Kit.due(36, "room(false)", y.room(false), 261);
        y.vector(3, 511);
        Kit.put(y, 511, 18);
        Kit.due(35, "pushes(3), 0 at least", y.pushes(3), 0);
        Kit.due(34, "cost(3)", y.cost(3), 1);
        // nearly every byte is a place: 9 from each to the next but one, two ways that never meet
        RankEntry z = new RankEntry();
        int[] code = new int[512];
        java.util.Arrays.fill(code, 9);
        code[0] = 12;
        code[1] = 0;
        code[2] = 4;
        code[510] = 18;
        code[511] = 18;
        Kit.put(z, 0, code);
        Kit.due(34, "cost(0), 510 places", z.cost(0), 1 + 254 + 1);
        Kit.due(35, "pushes(0), 510 places", z.pushes(0), 254);
        code[511] = 9;
        Kit.put(z, 0, code);
        Kit.due(34, "cost(0), one of them comes to x of 12", z.cost(0), -1);
    }

    /** "It is OPEN, if any WAY comes to a place twice, to 19, to a byte that is no INSTRUCTION" */
    private static void openWays() {
        for (int op = 0; op < 256; op++) {
            RankEntry x = Kit.with(256, 1, 0, 0, op, 1, 9, 18, 18, 18);
            Kit.put(x, 265, 18);
            x.vector(3, 256);
            boolean open = op < 1 || op > 29 || op == 19;
            Kit.due(34, "cost(3) by " + op + " is open", x.cost(3) == -1, open);
            Kit.due(35, "pushes(3) by " + op + " is open", x.pushes(3) == -1, open);
        }
        RankEntry y = Kit.with(256, 12, 1, 6, 11, 1, 6, 18);
        y.vector(3, 256);
        Kit.due(34, "cost(3): two ways to one place are no WAY that comes to it twice", y.cost(3), 3);
        Kit.put(y, 262, 12, 1, 0, 18);
        Kit.due(34, "cost(3): back to the first", y.cost(3), -1);
        Kit.put(y, 262, 13, 1, 6, 18);
        Kit.due(34, "cost(3): to itself", y.cost(3), -1);
        Kit.put(y, 262, 13, 1, 9, 18);
        Kit.due(34, "cost(3): both go on to the same", y.cost(3), 4);
    }

    /** "for each GROUP that any ENABLED one has the most PUSHES of these, and 6, or 10 .., together" */
    private static void roomOfGroups() {
        Random random = new Random(3);
        for (int n = 0; n < 200; n++) {
            RankEntry x = new RankEntry();
            for (int at = 0; at < 40; at += 2) {
                Kit.put(x, at, 9, 0);
            }
            Kit.put(x, 40, 18, 19);
            int split = n % 8;
            x.split(split);
            int[] most = new int[257];
            java.util.Arrays.fill(most, -1);
            boolean open = false;
            for (int i = 0; i < 21; i++) {
                int rank = random.nextInt(256);
                int pushes = random.nextInt(21);
                boolean on = random.nextInt(3) > 0;
                boolean bad = random.nextInt(200) == 0;
                x.rank(i, rank);
                x.enable(i, on);
                x.vector(i, bad ? 41 : 40 - 2 * pushes);
                int group = i == 20 ? 256 : rank >> split;
                if (on || i == 20) {
                    open |= bad;
                    most[group] = Math.max(most[group], pushes);
                }
            }
            int six = 0;
            int ten = 0;
            for (int m : most) {
                six += m < 0 ? 0 : m + 6;
                ten += m < 0 ? 0 : m + 10;
            }
            Kit.due(36, "room(false) of " + n, x.room(false), open ? -1 : six);
            Kit.due(36, "room(true) of " + n, x.room(true), open ? -1 : ten);
        }
    }
}
