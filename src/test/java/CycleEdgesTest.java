/** The boundary cases of the document's second term, a CYCLE: arrivals, timer, stall, sleep, each phase, faults, lock. */
public final class CycleEdgesTest {
    public static void main(String[] args) {
        arrivalsInTheOrderTold();
        arrivalsOf32();
        arrivalsAheadOfTheTimer();
        timerAt0();
        timerInEveryPhase();
        stallGoesFirst();
        sleepThroughBase();
        sleepInAHandler();
        wokenWhileShut();
        wokenToSave();
        marks();
        roomInStacking();
        stackedForNoneAndFull();
        lateOnes();
        raisedAtTheSixthStep();
        waitedFromTheLastTime();
        cameAsItReturned();
        chainedOnes();
        abandonedAtEachStep();
        framesTakenBack();
        lazyFramesWithoutFours();
        fiveWordsAtMost();
        savingIsNotBrokenInto();
        savedWhereverLazyIs();
        raisedBy();
        lockedAtOnce();
        Kit.end("CycleEdgesTest");
    }

    /** "those ARRIVALS that are due at it BECOME PENDING, in the order in which they were told, and are none any more" */
    private static void arrivalsInTheOrderTold() {
        RankEntry x = Kit.idle();
        x.arrive(3, 2);
        x.arrive(4, 2);
        x.arrive(3, 2);
        x.arrive(4, 1);
        x.arrive(5, 3);
        int[][] pending = {{0, 1, 0}, {1, 1, 0}, {1, 1, 1}};
        int[] merged = {0, 2, 2};
        int[] there = {4, 1, 0};
        for (int i = 0; i < 3; i++) {
            x.run(1);
            for (int source = 3; source < 6; source++) {
                Kit.due(12, "pending " + source + " at " + (i + 1), x.source(source, 3), pending[i][source - 3]);
            }
            Kit.due(12, "count(9) at " + (i + 1), x.count(9), merged[i]);
            Kit.due(12, "count(14) at " + (i + 1), x.count(14), there[i]);
        }
        x.clear(3);
        x.clear(4);
        x.clear(5);
        x.run(50);
        for (int source = 3; source < 6; source++) {
            Kit.due(12, "pending " + source + ", it came once", x.source(source, 3), 0);
        }
    }

    /** "false: others, 32 are there" */
    private static void arrivalsOf32() {
        RankEntry x = Kit.idle();
        for (int i = 0; i < 32; i++) {
            Kit.due(12, "arrive, " + i + " are there", x.arrive(i % 18, 1 + i), true);
            Kit.due(12, "count(14)", x.count(14), i + 1);
        }
        Kit.due(12, "arrive, 32 are there", x.arrive(0, 1), false);
        Kit.due(12, "count(14)", x.count(14), 32);
        for (int i = 0; i < 32; i++) {
            x.run(1);
            Kit.due(12, "count(14) at " + (i + 1), x.count(14), 31 - i);
            Kit.due(12, "pending at " + (i + 1), x.source(i % 18, 3), 1);
            Kit.due(12, "count(9) at " + (i + 1), x.count(9), Math.max(0, i - 17));
        }
        for (int i = 0; i < 32; i++) {
            Kit.due(12, "arrive, room again", x.arrive(17, 999), true);
        }
        Kit.due(12, "arrive, 32 again", x.arrive(17, 999), false);
        x.reset();
        Kit.due(15, "count(14), no ARRIVALS", x.count(14), 0);
        Kit.due(12, "arrive behind a reset", x.arrive(17, 999), true);
    }

    /** An arrival of the TIMER in the cycle in which it is at 0: it BECOMES PENDING once, and is MERGED. */
    private static void arrivalsAheadOfTheTimer() {
        RankEntry x = Kit.idle();
        x.timer(4);
        x.arrive(16, 4);
        x.run(3);
        Kit.due(11, "pending 16", x.source(16, 3), 0);
        x.run(1);
        Kit.due(11, "pending 16", x.source(16, 3), 1);
        Kit.due(11, "count(9)", x.count(9), 1);
        Kit.due(11, "state(15)", x.state(15), 4);
    }

    /** "counts down by 1, and at 0 BECOMES PENDING and counts anew from PERIOD" */
    private static void timerAt0() {
        for (int period : new int[] {1, 2, 3, 7, 199}) {
            RankEntry x = Kit.idle();
            x.timer(period);
            int came = 0;
            for (int clock = 1; clock <= 400; clock++) {
                x.run(1);
                Kit.due(11, "state(15), " + period + " at " + clock, x.state(15), period - clock % period);
                Kit.due(11, "pending, " + period + " at " + clock, x.source(16, 3), clock % period == 0 ? 1 : 0);
                came += x.clear(16) ? 1 : 0;
            }
            Kit.due(11, "it came so often", came, 400 / period);
        }
        RankEntry y = Kit.idle();
        y.timer(999);
        for (int i = 0; i < 4; i++) {
            y.run(200);
        }
        y.run(198);
        Kit.due(11, "state(15) at 998", y.state(15), 1);
        Kit.due(11, "pending at 998", y.source(16, 3), 0);
        y.run(1);
        Kit.due(11, "state(15) at 999", y.state(15), 999);
        Kit.due(11, "pending at 999", y.source(16, 3), 1);
        y.timer(3);
        y.run(2);
        y.timer(3);
        Kit.due(11, "state(15), it counts from it anew", y.state(15), 3);
        y.clear(16);
        y.run(2);
        Kit.due(11, "pending, anew", y.source(16, 3), 0);
        y.timer(0);
        y.run(200);
        Kit.due(11, "pending, the PERIOD is 0", y.source(16, 3), 0);
        y.timer(5);
        y.run(2);
        y.reset();
        Kit.due(15, "state(15), it counts anew", y.state(15), 5);
    }

    /** The TIMER and the ARRIVALS go on in every phase, and while it stalls or sleeps; not when it is LOCKED. */
    private static void timerInEveryPhase() {
        for (int scene = 1; scene < Scenes.ALL; scene++) {
            RankEntry x = Scenes.of(scene);
            int by = scene == Scenes.LOCKED ? 0 : 1;
            int count = x.state(15);
            int clock = x.count(0);
            x.arrive(6, 1);
            x.run(1);
            Kit.due(13, "scene " + scene + ": the timer's count", x.state(15), count - by);
            Kit.due(13, "scene " + scene + ": the clock", x.count(0), clock + by);
            Kit.due(13, "scene " + scene + ": the arrival", x.source(6, 3), by);
        }
    }

    /** "if STALL is not 0 it goes down by 1, no more" */
    private static void stallGoesFirst() {
        RankEntry x = Kit.with(0, 1, 1, 1, 5, 0, 1, 11, 0, 6);
        Kit.serve(x, 3, 9, 64, 18);
        x.run(2);
        x.pend(3);
        for (int left = 3; left > 0; left--) {
            Kit.due(22, "state(2)", x.state(2), left);
            Kit.due(22, "state(13)", x.state(13), 3);
            x.run(1);
            Kit.due(22, "state(0)", x.state(0), 0);
        }
        Kit.due(22, "state(2)", x.state(2), 0);
        x.run(1);
        Kit.due(22, "state(0), the first step", x.state(0), 1);
        Kit.due(22, "state(1), the first step", x.state(1), 1);
    }

    /** "if there would be a NEXT were SHUT 0": BASE counts still. */
    private static void sleepThroughBase() {
        RankEntry x = new RankEntry();
        x.rank(3, 40);
        x.enable(3, true);
        Kit.does(x, 17, 40);
        Kit.does(x, 19);
        Kit.put(x, x.state(4), 1, 5, 7, 11, 0, x.state(4) + 3);
        x.pend(3);
        x.run(20);
        Kit.due(13, "state(3), BASE is 40", x.state(3), 1);
        Kit.due(13, "reg(5)", Kit.reg(x, 5), 0);
        x.rank(3, 39);
        x.run(1);
        Kit.due(13, "state(3), the rank 39", x.state(3), 0);
        Kit.due(13, "state(0), it is stacked for", x.state(0), 1);
        RankEntry y = new RankEntry();
        y.rank(3, 40);
        y.enable(3, true);
        Kit.does(y, 17, 40);
        Kit.does(y, 16, 1);
        Kit.does(y, 19);
        Kit.put(y, y.state(4), 1, 5, 7, 11, 0, y.state(4) + 3);
        y.pend(3);
        y.run(20);
        Kit.due(13, "state(3), SHUT, and BASE is 40", y.state(3), 1);
        y.rank(3, 39);
        y.run(1);
        Kit.due(13, "state(3), SHUT, the rank 39", y.state(3), 0);
        Kit.due(13, "state(0), SHUT: none is stacked for", y.state(0), 0);
        Kit.due(13, "reg(5), in the same cycle", Kit.reg(y, 5), 7);
    }

    /** The GROUPS of the ACTIVE ones count still, too. */
    private static void sleepInAHandler() {
        RankEntry x = Kit.idle();
        Kit.serve(x, 3, 40, 64, 16, 1, 19, 1, 5, 7, 11, 0, 70);
        x.enable(4, true);
        x.rank(4, 40);
        x.pend(3);
        x.till(3);
        x.run(2);
        x.pend(4);
        x.run(9);
        Kit.due(13, "state(3), of the same group", x.state(3), 1);
        x.rank(4, 39);
        x.run(1);
        Kit.due(13, "state(3), of a lesser group", x.state(3), 0);
        Kit.due(13, "reg(5)", Kit.reg(x, 5), 7);
    }

    /** "Then (ASLEEP no more) the INSTRUCTION at the PC is done": it may be 19 again, and may raise. */
    private static void wokenWhileShut() {
        RankEntry x = new RankEntry();
        x.enable(3, true);
        Kit.does(x, 16, 1);
        Kit.does(x, 19);
        x.pend(3);
        int done = x.count(10);
        int pc = x.state(4);
        Kit.put(x, pc, 19, 19, 255);
        x.run(1);
        Kit.due(13, "state(3), asleep again", x.state(3), 1);
        Kit.due(13, "state(4), behind it", x.state(4), pc + 1);
        Kit.due(13, "count(10)", x.count(10), done + 1);
        x.run(1);
        Kit.due(13, "state(4), behind the next", x.state(4), pc + 2);
        x.run(1);
        Kit.due(13, "state(3), woken by what raises", x.state(3), 0);
        Kit.due(13, "count(7)", x.count(7), 1);
        Kit.due(13, "state(4), there still", x.state(4), pc + 2);
        RankEntry y = new RankEntry();
        y.enable(3, true);
        Kit.does(y, 16, 1);
        Kit.does(y, 19);
        y.pend(4);
        y.pend(5);
        y.run(30);
        Kit.due(13, "state(3), none of those is enabled", y.state(3), 1);
    }

    /** Woken while it is SHUT, and the INSTRUCTION must save first: the first step is in that cycle. */
    private static void wokenToSave() {
        RankEntry x = Kit.with(0, 20, 2, 48, 11, 0, 3);
        Kit.serve(x, 3, 40, 64, 16, 1, 19, 20, 2, 16, 11, 0, 70);
        x.enable(4, true);
        x.rank(4, 9);
        x.run(1);
        x.pend(3);
        x.till(3);
        x.run(2);
        x.pend(4);
        x.run(1);
        Kit.due(13, "state(3)", x.state(3), 0);
        Kit.due(13, "state(0)", x.state(0), 4);
        Kit.due(13, "state(1)", x.state(1), 1);
        Kit.due(13, "state(4)", x.state(4), 67);
        x.run(3);
        Kit.due(13, "state(0)", x.state(0), 0);
        Kit.due(13, "word(2)", Kit.word(x, 2), Float.floatToIntBits(3f));
        Kit.due(13, "reg(10), not yet", Kit.reg(x, 10), Float.floatToIntBits(3f));
        x.run(1);
        Kit.due(13, "reg(10)", Kit.reg(x, 10), Float.floatToIntBits(1f));
    }

    /** "MARK (23040 + Z + 2 * N, + 4 with FOURS)" */
    private static void marks() {
        for (int flags = 0; flags < 6; flags++) {
            boolean floats = flags >= 3;
            RankEntry x = new RankEntry();
            if (flags % 3 == 1) {
                Kit.does(x, 6, 0, 0);
            }
            if (flags % 3 == 2) {
                Kit.does(x, 1, 1, 1);
                Kit.does(x, 3, 0, 1);
            }
            if (floats) {
                Kit.does(x, 20, 0, 0);
            }
            Kit.serve(x, 3, 9, 300, 18);
            x.pend(3);
            x.till(3);
            Kit.due(13, "the mark", Kit.word(x, floats ? 9 : 5), 23040 + flags % 3 + (floats ? 4 : 0));
            Kit.does(x, 1, 1, 2);
            Kit.does(x, flags % 3 == 1 ? 2 : 6, 1, 1);
            Kit.does(x, 18);
            x.run(6);
            Kit.due(13, "state(0)", x.state(0), 0);
            Kit.due(13, "state(6)", x.state(6), flags % 3 == 1 ? 1 : 0);
            Kit.due(13, "state(7)", x.state(7), flags % 3 == 2 ? 1 : 0);
            Kit.due(13, "state(10)", x.state(10), floats ? 1 : 0);
        }
    }

    /** "What has no room (all four, or the one) is left out and FULL is RAISED, and then all that comes behind it, too" */
    private static void roomInStacking() {
        for (int words = 84; words <= 96; words++) {
            roomFor(words, false);
            roomFor(words, true);
        }
    }

    private static void roomFor(int words, boolean floats) {
        RankEntry x = new RankEntry();
        Kit.levels(x, words);
        for (int i = 0; i < 4; i++) {
            Kit.does(x, 1, i, 31 + i);
        }
        if (floats) {
            Kit.does(x, 20, 0, 0);
        }
        Kit.serve(x, 3, 90, 400, 18);
        Kit.serve(x, 19, 200, 400);
        int pc = x.state(4);
        int[] frame = {31, 32, 33, 34, pc, floats ? 23044 : 23040};
        int sp = words;
        int lazy = -1;
        boolean left = false;
        String what = words + " words" + (floats ? " and floats, " : ", ");
        x.pend(3);
        for (int step = 0; step < 6; step++) {
            x.run(1);
            if (step == 0 && floats) {
                left = sp + 4 > 96;
                lazy = left ? -1 : sp;
                sp += left ? 0 : 4;
            }
            left = left || sp + 1 > 96;
            if (!left) {
                Kit.due(13, what + "word(" + sp + ")", Kit.word(x, sp), frame[step]);
                sp++;
            }
            Kit.due(13, what + "state(5) at " + step, x.state(5), sp);
            Kit.due(13, what + "state(11) at " + step, x.state(11), lazy);
            Kit.due(13, what + "count(7) at " + step, x.count(7), left ? 1 : 0);
            Kit.due(13, what + "pending 19 at " + step, x.source(19, 3), left ? 1 : 0);
            Kit.due(13, what + "state(0) at " + step, x.state(0), step < 5 ? 1 : 0);
        }
        Kit.due(13, what + "nest(0): FULL's rank is greater", x.nest(0), 3);
        Kit.due(13, what + "state(4)", x.state(4), 400);
        Kit.due(13, what + "state(10)", x.state(10), 0);
        Kit.due(13, what + "count(8)", x.count(8), 0);
        Kit.due(13, what + "count(3)", x.count(3), 0);
    }

    /** "or, if there is none, the PHASE is UNSTACKING": of a frame that was left out. */
    private static void stackedForNoneAndFull() {
        RankEntry x = new RankEntry();
        Kit.levels(x, 96);
        Kit.serve(x, 3, 90, 400, 18);
        x.pend(3);
        x.run(5);
        Kit.due(13, "clear(3)", x.clear(3), true);
        Kit.due(13, "clear(20)", x.clear(20), true);
        x.run(1);
        Kit.due(13, "state(0)", x.state(0), 3);
        Kit.due(13, "state(1)", x.state(1), 0);
        Kit.due(13, "count(1)", x.count(1), 0);
        x.run(1);
        Kit.due(13, "the last word is no mark: state(0)", x.state(0), 2);
        Kit.due(13, "state(1), the chain's step is not now", x.state(1), 0);
        Kit.due(13, "count(7)", x.count(7), 2);
        Kit.due(13, "count(8)", x.count(8), 2);
        Kit.due(13, "count(4), it is not abandoned", x.count(4), 0);
        x.run(2);
        Kit.due(13, "nest(0)", x.nest(0), 20);
        Kit.due(13, "count(2)", x.count(2), 1);
    }

    /** "Behind the sixth step NEXT BEGINS (LATE, if it is another one than the FIRST)" */
    private static void lateOnes() {
        for (int step = 1; step <= 6; step++) {
            RankEntry x = Kit.idle();
            Kit.serve(x, 3, 90, 400, 11, 1, 144);
            Kit.serve(x, 2, 80, 400);
            Kit.serve(x, 4, 95, 400);
            x.pend(3);
            x.run(1);
            x.arrive(2, step);
            x.run(5);
            Kit.due(13, "nest(0), one that comes at the step " + (step + 1), x.nest(0), step < 6 ? 2 : 3);
            Kit.due(13, "count(3), at the step " + (step + 1), x.count(3), step < 6 ? 1 : 0);
            Kit.due(13, "event(0, 3)", Kit.event(x, 0, 3), step < 6 ? 5 - step : 6);
            Kit.due(25, "waited(2)", x.waited(2), step < 6 ? 5 - step : -1);
            Kit.due(25, "waited(3)", x.waited(3), step < 6 ? -1 : 6);
        }
        RankEntry y = Kit.idle();
        Kit.serve(y, 3, 90, 400, 11, 1, 144);
        Kit.serve(y, 4, 95, 400);
        y.pend(3);
        y.pend(4);
        y.run(2);
        y.enable(3, false);
        y.run(4);
        Kit.due(13, "nest(0), the first is not enabled any more", y.nest(0), 4);
        Kit.due(13, "count(3)", y.count(3), 1);
        RankEntry z = Kit.idle();
        Kit.serve(z, 3, 90, 400, 11, 1, 144);
        Kit.serve(z, 4, 95, 400);
        z.pend(3);
        z.run(2);
        z.clear(3);
        z.pend(4);
        z.run(1);
        z.pend(3);
        z.run(3);
        Kit.due(13, "nest(0), the first has come again", z.nest(0), 3);
        Kit.due(13, "count(3)", z.count(3), 0);
        Kit.dueEvent(24, z, 0, 0, 3, 6, 3);
    }

    /** The sixth word has no room: FULL is RAISED, and may BEGIN in the same cycle, having WAITED 0. */
    private static void raisedAtTheSixthStep() {
        for (int rank : new int[] {10, 200}) {
            RankEntry x = new RankEntry();
            Kit.levels(x, 91);
            Kit.serve(x, 3, 90, 400, 18);
            Kit.serve(x, 19, rank, 400);
            int pc = x.state(4);
            int clock = x.count(0);
            x.pend(3);
            x.run(5);
            Kit.due(13, "count(7), five have room", x.count(7), 0);
            x.run(1);
            Kit.dueEvent(24, x, 1, 3, 19, clock + 6, pc);
            Kit.dueEvent(24, x, 0, 0, rank == 10 ? 19 : 3, clock + 6, rank == 10 ? 0 : 6);
            Kit.due(25, "waited(19)", x.waited(19), rank == 10 ? 0 : -1);
            Kit.due(13, "count(3)", x.count(3), rank == 10 ? 1 : 0);
        }
    }

    /** "the PHASE is CHAINING, if there is a NEXT, else UNSTACKING": about the cycle of a RETURN. */
    private static void cameAsItReturned() {
        for (int at = 6; at <= 8; at++) {
            RankEntry x = Kit.idle();
            Kit.serve(x, 3, 90, 400, 18);
            Kit.serve(x, 4, 95, 410, 11, 1, 154);
            x.pend(3);
            x.arrive(4, at);
            x.run(7);
            Kit.due(13, "state(0), it came at " + at, x.state(0), at < 8 ? 2 : 3);
            Kit.due(13, "state(1)", x.state(1), 0);
            x.run(1);
            Kit.due(13, "state(0)", x.state(0), 2);
            Kit.due(13, "count(4)", x.count(4), at < 8 ? 0 : 1);
            x.run(1);
            Kit.dueEvent(24, x, 0, 1, 4, 9, 9 - at);
        }
    }

    /** "It WAITED the CLOCK less the CLOCK as it BECAME PENDING": the last time, if it was taken back meanwhile. */
    private static void waitedFromTheLastTime() {
        RankEntry x = Kit.idle();
        Kit.serve(x, 3, 90, 400, 11, 1, 144);
        x.enable(3, false);
        x.pend(3);
        x.run(30);
        x.clear(3);
        x.pend(3);
        x.run(10);
        x.pend(3);
        x.enable(3, true);
        x.run(6);
        Kit.dueEvent(24, x, 0, 0, 3, 46, 16);
        Kit.due(25, "waited(3)", x.waited(3), 16);
    }

    /** "CHAINING: two steps; behind the second one NEXT BEGINS (by a CHAIN)": whoever that is then. */
    private static void chainedOnes() {
        for (int at = 7; at <= 9; at++) {
            RankEntry x = Kit.idle();
            Kit.serve(x, 3, 90, 400, 18);
            Kit.serve(x, 2, 80, 400);
            Kit.serve(x, 1, 70, 410, 11, 1, 154);
            x.pend(3);
            x.pend(2);
            x.run(at);
            x.pend(1);
            x.run(9 - at);
            Kit.due(13, "nest(0), one that comes behind " + at, x.nest(0), at < 9 ? 1 : 3);
            Kit.due(13, "count(2)", x.count(2), 1);
            Kit.due(13, "count(3), a chain is not late", x.count(3), 0);
            Kit.due(13, "state(5)", x.state(5), 6);
            Kit.due(13, "state(10)", x.state(10), 0);
        }
    }

    /** "if there is a NEXT it is ABANDONED: the PHASE is CHAINING, its first step is now (so at each step)" */
    private static void abandonedAtEachStep() {
        for (int steps = 0; steps <= 10; steps++) {
            abandoned(steps, false, false);
            abandoned(steps, true, false);
            abandoned(steps, true, true);
        }
    }

    private static void abandoned(int steps, boolean floats, boolean saved) {
        RankEntry x = Kit.with(0, 20, 0, 16, 11, 0, 3);
        Kit.serve(x, 3, 90, 400, 18);
        Kit.serve(x, 2, 80, 410, 11, 1, 154);
        Kit.put(x, 400, 20, 0, 32, 18);
        x.vector(3, saved ? 400 : 403);
        if (!floats) {
            Kit.put(x, 0, 11, 0, 3, 11, 0, 3);
        }
        x.run(1);
        x.pend(3);
        x.run(saved ? 12 : 7);
        Kit.due(13, "state(0), unstacking", x.state(0), 3);
        int all = saved ? 10 : 6;
        if (steps > all) {
            return;
        }
        x.arrive(2, steps + 1);
        x.run(steps + 1);
        int clock = (saved ? 13 : 8) + steps + 1;
        if (steps < all) {
            Kit.dueEvent(24, x, 0, 4, 2, clock, steps);
            Kit.due(13, "state(0), chaining", x.state(0), 2);
            Kit.due(13, "state(1), its first step", x.state(1), 1);
            Kit.due(13, "count(4)", x.count(4), 1);
            Kit.due(13, "state(5), nothing is taken back", x.state(5), floats ? 10 : 6);
            x.run(1);
            Kit.dueEvent(24, x, 0, 1, 2, clock + 1, 1);
        } else {
            Kit.due(13, "state(0), stacking anew", x.state(0), 1);
            Kit.due(13, "count(4)", x.count(4), 0);
            Kit.dueEvent(24, x, 0, 5, -1, clock - 1, 0);
        }
    }

    /** "of SP words: if there are less than 6 ..": every order of what is wrong with a frame. */
    private static void framesTakenBack() {
        int[] marks = {23039, 23040, 23041, 23042, 23043, 23044, 23045, 23046, 23047, 23048, 0, -1, 4,
            Integer.MIN_VALUE, Integer.MAX_VALUE, 23040 + 65536, -23040};
        int[] places = {-1, 0, 511, 512, Integer.MIN_VALUE, Integer.MAX_VALUE, 65536 + 5};
        for (int mark : marks) {
            for (int place : places) {
                for (int words : new int[] {5, 6, 9, 10, 11}) {
                    frame(words, place, mark);
                }
            }
        }
    }

    private static void frame(int words, int place, int mark) {
        RankEntry x = Kit.idle();
        Kit.serve(x, 3, 90, 256, 18);
        Kit.serve(x, 18, 80, 480, 11, 1, 224);
        Kit.serve(x, 19, 80, 490, 11, 1, 234);
        x.pend(3);
        x.till(3);
        Kit.levels(x, 0);
        for (int i = 0; i < words - 2; i++) {
            Kit.does(x, 1, 7, 11 + i);
            Kit.does(x, 9, 7);
        }
        Kit.does(x, 11, 1, 0);
        Kit.pushes(x, place);
        Kit.pushes(x, mark);
        Kit.does(x, 18);
        Kit.due(13, "state(0)", x.state(0), 3);
        x.run(1);
        boolean marked = mark >= 23040 && mark <= 23047;
        boolean fours = marked && mark >= 23044;
        int fault = words < 6 ? 19 : !marked ? 18 : fours && words < 10 ? 19 : place < 0 || place > 511 ? 18 : -1;
        String what = words + " words, " + place + ", " + mark + ": ";
        Kit.due(13, what + "count(7)", x.count(7), fault == -1 ? 0 : 1);
        if (fault != -1) {
            Kit.due(13, what + "the fault", Kit.event(x, 0, 1), fault);
            Kit.due(13, what + "state(0)", x.state(0), 2);
            Kit.due(13, what + "state(1)", x.state(1), 0);
            Kit.due(13, what + "state(5) stays", x.state(5), words);
            x.run(2);
            Kit.due(13, what + "nest(0)", x.nest(0), fault);
            return;
        }
        int steps = fours ? 10 : 6;
        Kit.put(x, place, 255);
        x.run(steps - 2);
        Kit.due(13, what + "state(1)", x.state(1), steps - 1);
        x.run(1);
        Kit.due(13, what + "state(0)", x.state(0), 0);
        Kit.due(13, what + "state(4)", x.state(4), place);
        Kit.due(13, what + "state(5)", x.state(5), words - steps);
        Kit.due(13, what + "state(6)", x.state(6), mark % 2);
        Kit.due(13, what + "state(7)", x.state(7), mark / 2 % 2);
        Kit.due(13, what + "state(10)", x.state(10), fours ? 1 : 0);
        for (int i = 0; i < 4; i++) {
            Kit.due(13, what + "reg(" + i + ")", Kit.reg(x, i), 11 + words - 6 + i);
            Kit.due(13, what + "reg(" + (8 + i) + ")", Kit.reg(x, 8 + i), fours ? 11 + words - 10 + i : 0);
        }
        Kit.dueEvent(24, x, 0, 5, -1, x.count(0), words - steps);
    }

    /** "if LAZY is SP - 10 and it has FOURS": a mark without FOURS leaves LAZY, and six words go off. */
    private static void lazyFramesWithoutFours() {
        for (int mark : new int[] {23040, 23044}) {
            for (int more = 0; more < 2; more++) {
                RankEntry x = new RankEntry();
                Kit.does(x, 20, 1, 80);
                Kit.serve(x, 3, 90, 256, 18);
                x.pend(3);
                x.till(3);
                Kit.due(13, "state(11)", x.state(11), 0);
                Kit.levels(x, 8 + more);
                Kit.pushes(x, 100);
                Kit.pushes(x, mark);
                // one word more than the frame: LAZY is not SP - 10 but SP - 11
                Kit.does(x, 18);
                boolean spared = mark == 23044 && more == 0;
                boolean ten = mark == 23044 && more == 1;
                x.run(ten ? 9 : 5);
                Kit.due(13, "state(0)", x.state(0), 3);
                x.run(1);
                Kit.due(13, "state(0)", x.state(0), 0);
                Kit.due(13, "state(4)", x.state(4), 100);
                Kit.due(13, "count(6)", x.count(6), spared ? 1 : 0);
                Kit.due(13, "state(11)", x.state(11), spared ? -1 : 0);
                Kit.due(13, "state(5)", x.state(5), mark == 23044 ? more : 4 + more);
                Kit.due(13, "state(10)", x.state(10), mark == 23044 ? 1 : 0);
                Kit.due(13, "reg(9)", Kit.reg(x, 9), ten ? Kit.word(x, 2) : Float.floatToIntBits(5f));
            }
        }
    }

    /** "if there are less than 6, FULL is RAISED": from none on. */
    private static void fiveWordsAtMost() {
        for (int words = 0; words < 6; words++) {
            RankEntry x = new RankEntry();
            Kit.serve(x, 3, 90, 256, 18);
            x.pend(3);
            x.till(3);
            Kit.levels(x, words);
            Kit.does(x, 18);
            x.run(1);
            Kit.due(13, words + " words: count(7)", x.count(7), 1);
            Kit.due(13, words + " words: the PC", Kit.event(x, 0, 3), x.state(4));
            Kit.due(13, words + " words: HARD", Kit.event(x, 0, 1), 20);
            x.clear(20);
            x.run(2);
            Kit.due(13, words + " words, taken back: state(0)", x.state(0), 3);
            x.run(1);
            Kit.due(13, words + " words, again: count(7)", x.count(7), 2);
        }
    }

    /** SAVING has four steps, whoever comes; then that one is stacked for, ahead of the INSTRUCTION. */
    private static void savingIsNotBrokenInto() {
        RankEntry x = Kit.with(0, 20, 0, 16, 11, 0, 3);
        Kit.serve(x, 3, 90, 256, 20, 0, 32, 18);
        Kit.serve(x, 2, 80, 300, 18);
        x.run(1);
        x.pend(3);
        x.till(3);
        x.run(1);
        x.pend(2);
        for (int step = 2; step <= 4; step++) {
            Kit.due(13, "state(0)", x.state(0), 4);
            x.run(1);
        }
        Kit.due(13, "state(0)", x.state(0), 0);
        Kit.due(13, "count(5)", x.count(5), 1);
        x.run(1);
        Kit.due(13, "state(0), stacking", x.state(0), 1);
        Kit.due(13, "state(5), no FOURS: nothing with floats was done", x.state(5), 11);
        Kit.due(13, "reg(8), not yet", Kit.reg(x, 8), Float.floatToIntBits(1f));
        x.run(5 + 1 + 6);
        Kit.due(13, "state(4), back at it", x.state(4), 256);
        x.run(1);
        Kit.due(13, "reg(8), not saved again", Kit.reg(x, 8), Float.floatToIntBits(2f));
        Kit.due(13, "count(5)", x.count(5), 1);
        Kit.due(13, "state(10)", x.state(10), 1);
    }

    /** "come into the cells LAZY, LAZY + 1, + 2, + 3": on the stack or not, up to the cell 95. */
    private static void savedWhereverLazyIs() {
        RankEntry x = new RankEntry();
        Kit.levels(x, 92);
        for (int i = 0; i < 4; i++) {
            Kit.does(x, 20, i, 16 + i);
        }
        Kit.serve(x, 3, 90, 256, 18);
        Kit.serve(x, 19, 200, 300);
        x.pend(3);
        x.till(3);
        Kit.due(13, "state(11)", x.state(11), 92);
        Kit.due(13, "state(5)", x.state(5), 96);
        Kit.levels(x, 90);
        Kit.put(x, x.state(4), 23, 0, 0);
        x.run(4);
        for (int i = 0; i < 4; i++) {
            Kit.due(13, "word(" + (92 + i) + ")", Kit.word(x, 92 + i), Float.floatToIntBits((16 + i) / 16f));
        }
        Kit.due(13, "state(5) stays", x.state(5), 90);
        Kit.due(13, "state(11)", x.state(11), -1);
        Kit.due(13, "count(5)", x.count(5), 1);
    }

    /** "if it is ENABLED and its GROUP is less than the LIMIT, it BECOMES PENDING; else, if HARD is not ACTIVE, HARD" */
    private static void raisedBy() {
        for (int fault = 18; fault <= 19; fault++) {
            int[] raises = fault == 18 ? new int[] {255} : new int[] {10, 0};
            for (int rank = 48; rank <= 50; rank++) {
                for (int on = 0; on < 2; on++) {
                    RankEntry x = new RankEntry();
                    x.rank(fault, rank);
                    x.enable(fault, on == 1);
                    Kit.does(x, 17, 49);
                    int pc = x.state(4);
                    int due = on == 1 && rank < 49 ? fault : 20;
                    Kit.due(28, "escalates(" + fault + "), " + rank, x.escalates(fault), due);
                    Kit.tries(x, raises);
                    Kit.dueEvent(24, x, 0, 3, due, 2, pc);
                    Kit.due(13, "pending", x.source(due, 3), 1);
                    Kit.due(13, "not pending", x.source(due == 20 ? fault : 20, 3), 0);
                    Kit.due(13, "count(8)", x.count(8), due == 20 ? 1 : 0);
                    Kit.due(13, "count(7)", x.count(7), 1);
                    Kit.due(13, "state(2), 1 cycle", x.state(2), 0);
                    Kit.due(13, "state(4) stays", x.state(4), pc);
                }
            }
        }
    }

    /** "else the PHASE is LOCKED, at once: what would come behind in this CYCLE is left out" */
    private static void lockedAtOnce() {
        for (int fault = 18; fault <= 19; fault++) {
            RankEntry x = new RankEntry();
            x.vector(20, 256);
            Kit.tries(x, 255);
            x.till(20);
            Kit.levels(x, 0);
            x.rank(fault, 0);
            x.enable(fault, true);
            x.timer(50);
            x.arrive(3, 1);
            x.arrive(4, 2);
            int clock = x.count(0);
            int pc = x.state(4);
            Kit.due(28, "escalates(" + fault + ")", x.escalates(fault), -2);
            Kit.tries(x, fault == 18 ? new int[] {255} : new int[] {10, 0});
            Kit.due(22, "state(0)", x.state(0), 5);
            Kit.due(22, "state(1)", x.state(1), 0);
            Kit.dueEvent(24, x, 0, 3, -1, clock + 1, pc);
            Kit.due(13, "count(7)", x.count(7), 2);
            Kit.due(13, "count(8)", x.count(8), 1);
            Kit.due(13, "pending " + fault, x.source(fault, 3), 0);
            Kit.due(13, "pending 20", x.source(20, 3), 0);
            Kit.due(13, "pending 3, it came in this cycle", x.source(3, 3), 1);
            Kit.due(13, "state(15)", x.state(15), 49);
            String before = Kit.seen(x);
            Kit.due(13, "run(200)", x.run(200), 0);
            Kit.due(14, "till(3)", x.till(3), -1);
            Kit.due(13, "nothing more is done", Kit.seen(x).equals(before), true);
            Kit.due(9, "pend(5), locked", x.pend(5), true);
            Kit.due(10, "clear(5), locked", x.clear(5), true);
            Kit.due(15, "reset()", x.reset(), 1);
            Kit.due(22, "state(0)", x.state(0), 0);
        }
    }
}
