/** The boundary cases of the document's first term, the MACHINE: ranks, groups, the LIMIT, NEXT, the NEST, MERGED. */
public final class MachineEdgesTest {
    public static void main(String[] args) {
        stackOf96();
        cellsKeepTheirWords();
        groupsAndSubs();
        limitOf256();
        limitIsTheLeast();
        baseOf0IsNone();
        groupsMustBeLess();
        nextByGroupSubNumber();
        hardIsAheadOfAll();
        hardShutsAllOut();
        deepestNest();
        mergedInEachWay();
        heldOnes();
        Kit.end("MachineEdgesTest");
    }

    /** "the STACK: 96 words (ints), of which the first SP lie on it" */
    private static void stackOf96() {
        RankEntry x = new RankEntry();
        for (int i = 0; i < 96; i++) {
            Kit.does(x, 1, 0, i + 1);
            Kit.does(x, 9, 0);
            Kit.due(22, "state(5)", x.state(5), i + 1);
        }
        Kit.due(23, "count(13)", x.count(13), 96);
        for (int i = 0; i < 96; i++) {
            Kit.due(17, "word(" + i + ")", Kit.word(x, i), i + 1);
        }
        Kit.tries(x, 9, 0);
        Kit.due(22, "state(5), full", x.state(5), 96);
        Kit.due(13, "it is raised", Kit.event(x, 0, 0), 3);
    }

    /** "a cell keeps its word till another one is written there" */
    private static void cellsKeepTheirWords() {
        RankEntry x = new RankEntry();
        for (int i = 0; i < 12; i++) {
            Kit.does(x, 1, 0, 101 + i);
            Kit.does(x, 9, 0);
        }
        for (int i = 0; i < 12; i++) {
            Kit.does(x, 10, 1);
            Kit.due(13, "off it", Kit.reg(x, 1), 112 - i);
        }
        Kit.due(22, "state(5)", x.state(5), 0);
        for (int i = 0; i < 12; i++) {
            Kit.due(17, "word(" + i + "), off it", Kit.word(x, i), 101 + i);
        }
        Kit.does(x, 1, 0, 7);
        Kit.does(x, 9, 0);
        Kit.due(17, "word(0), another one", Kit.word(x, 0), 7);
        Kit.due(17, "word(1), the old one", Kit.word(x, 1), 102);
        Kit.does(x, 20, 0, 16);
        Kit.serve(x, 3, 9, 300, 18);
        Kit.put(x, x.state(4), 11, x.state(4) / 256, x.state(4) % 256);
        x.pend(3);
        x.run(1);
        for (int i = 1; i < 5; i++) {
            Kit.due(13, "word(" + i + "), one of FOURS", Kit.word(x, i), 101 + i);
        }
        Kit.due(13, "word(5), R0", Kit.word(x, 5), 7);
        Kit.due(13, "word(6), not yet", Kit.word(x, 6), 107);
    }

    /** "GROUP of a SOURCE: its RANK / 2 to the power of SPLIT, cut (HARD: -1); SUB: what is left over" */
    private static void groupsAndSubs() {
        int[] powers = {1, 2, 4, 8, 16, 32, 64, 128};
        RankEntry x = new RankEntry();
        for (int split = 0; split < 8; split++) {
            x.split(split);
            for (int rank = 0; rank < 256; rank++) {
                x.rank(rank % 20, rank);
                String of = " of the rank " + rank + " by " + split;
                Kit.due(20, "the group" + of, x.source(rank % 20, 6), rank / powers[split]);
                Kit.due(20, "the sub" + of, x.source(rank % 20, 7), rank % powers[split]);
            }
            Kit.due(20, "HARD's group by " + split, x.source(20, 6), -1);
            Kit.due(20, "HARD's sub by " + split, x.source(20, 7), 0);
            Kit.due(20, "HARD's rank by " + split, x.source(20, 0), -1);
        }
    }

    /** "LIMIT: the least of 256, .." : with nothing else the rank 255 CAN, by every SPLIT. */
    private static void limitOf256() {
        for (int split = 0; split < 8; split++) {
            RankEntry x = Kit.idle();
            x.split(split);
            Kit.due(22, "state(12) by " + split, x.state(12), 256);
            x.vector(0, 64);
            x.enable(0, true);
            x.pend(0);
            Kit.due(22, "state(13), the rank 255 by " + split, x.state(13), 0);
            Kit.due(14, "till(0)", x.till(0), 6);
            Kit.due(22, "state(12), it is active", x.state(12), 255 >> split);
        }
    }

    /** "the least of 256, the GROUPS of all ACTIVE ones, if BASE is not 0 BASE / .., and, if SHUT is 1, 0" */
    private static void limitIsTheLeast() {
        for (int split = 0; split < 8; split++) {
            RankEntry x = new RankEntry();
            x.split(split);
            due("none", x, 256);
            Kit.does(x, 17, 255);
            due("BASE 255", x, 255 >> split);
            Kit.does(x, 17, 1);
            due("BASE 1", x, 1 >> split);
            Kit.does(x, 17, 0);
            due("BASE 0", x, 256);
            Kit.does(x, 16, 1);
            due("SHUT", x, 0);
            Kit.does(x, 17, 200);
            due("SHUT and BASE", x, 0);
            Kit.does(x, 16, 0);
            Kit.does(x, 17, 0);
            Kit.serve(x, 3, 129, 256, 18);
            x.pend(3);
            x.till(3);
            Kit.does(x, 17, 200);
            due("BASE 200, the rank 129 active", x, 129 >> split);
            Kit.does(x, 17, 128);
            due("BASE 128, the rank 129 active", x, 128 >> split);
            Kit.does(x, 17, 1);
            due("BASE 1, the rank 129 active", x, 1 >> split);
            Kit.does(x, 17, 0);
            due("BASE 0, the rank 129 active", x, 129 >> split);
            x.rank(4, 0);
            x.enable(4, true);
            x.vector(4, 384);
            x.pend(4);
            x.till(4);
            due("the ranks 129 and 0 active", x, 0);
            Kit.does(x, 16, 1);
            Kit.does(x, 17, 255);
            due("the ranks 129 and 0 active, SHUT, BASE 255", x, 0);
            Kit.tries(x, 255);
            x.till(20);
            due("HARD active, too", x, -1);
        }
    }

    private static void due(String what, RankEntry x, int limit) {
        Kit.due(22, what + " by " + x.state(14) + ": state(12)", x.state(12), limit);
    }

    /** "if BASE is not 0": a BASE of 0 bounds nothing, one that is 0 only when it is divided bounds all but HARD. */
    private static void baseOf0IsNone() {
        RankEntry x = new RankEntry();
        x.split(3);
        x.rank(0, 0);
        x.enable(0, true);
        Kit.does(x, 17, 7);
        x.pend(0);
        Kit.due(22, "state(12), BASE 7 by 3", x.state(12), 0);
        Kit.due(22, "state(13), BASE 7 by 3", x.state(13), -1);
        Kit.does(x, 17, 8);
        Kit.due(22, "state(12), BASE 8 by 3", x.state(12), 1);
        Kit.due(22, "state(13), BASE 8 by 3", x.state(13), 0);
        x.rank(0, 255);
        Kit.due(22, "state(13), the rank 255", x.state(13), -1);
        x.reset();
        Kit.does(x, 17, 255);
        Kit.does(x, 17, 0);
        x.pend(0);
        Kit.due(22, "state(13), BASE 0", x.state(13), 0);
    }

    /** "A SOURCE CAN, if it is PENDING, ENABLED and its GROUP is less than the LIMIT" */
    private static void groupsMustBeLess() {
        for (int split = 0; split < 8; split++) {
            RankEntry x = Kit.idle();
            x.split(split);
            Kit.serve(x, 3, 128, 64, 11, 0, 64);
            x.pend(3);
            x.till(3);
            x.vector(4, 80);
            Kit.put(x, 80, 11, 0, 80);
            x.rank(4, 128);
            x.enable(4, true);
            x.pend(4);
            Kit.due(22, "state(13), the same group by " + split, x.state(13), -1);
            Kit.due(29, "soon(4), the same group by " + split, x.soon(4), -1);
            x.rank(4, 127);
            Kit.due(22, "state(13), less by " + split, x.state(13), 4);
            x.enable(4, false);
            Kit.due(22, "state(13), not enabled", x.state(13), -1);
            x.enable(4, true);
            x.clear(4);
            Kit.due(22, "state(13), not pending", x.state(13), -1);
            x.pend(4);
            Kit.due(14, "till(4)", x.till(4), 6);
            Kit.due(21, "nest(1)", x.nest(1), 4);
        }
        RankEntry y = Kit.idle();
        y.split(4);
        Kit.serve(y, 3, 32 + 15, 64, 11, 0, 64);
        y.pend(3);
        y.till(3);
        Kit.serve(y, 4, 32, 64);
        y.pend(4);
        Kit.due(22, "state(13), a lesser sub of the same group", y.state(13), -1);
        y.rank(4, 31);
        Kit.due(22, "state(13), a greater sub of a lesser group", y.state(13), 4);
    }

    /** "NEXT: of those that CAN the one of the least GROUP, of these of the least SUB, of these the lowest number" */
    private static void nextByGroupSubNumber() {
        RankEntry x = Kit.idle();
        x.split(4);
        for (int i = 0; i < 20; i++) {
            x.rank(i, 100);
            x.enable(i, true);
            x.pend(i);
        }
        for (int i = 0; i < 20; i++) {
            Kit.due(22, "state(13), the lowest number", x.state(13), i);
            x.clear(i);
        }
        Kit.due(22, "state(13), none", x.state(13), -1);
        x.pend(19);
        x.pend(3);
        x.rank(19, 99);
        Kit.due(22, "state(13), the least sub", x.state(13), 19);
        x.rank(3, 95);
        Kit.due(22, "state(13), the least group, its sub is 15", x.state(13), 3);
        x.rank(19, 0);
        x.rank(3, 1);
        Kit.due(22, "state(13), the rank 0", x.state(13), 19);
        x.enable(19, false);
        Kit.due(22, "state(13), of those that CAN", x.state(13), 3);
    }

    /** "HARD: -1": it comes ahead of the rank 0, through SHUT and BASE. */
    private static void hardIsAheadOfAll() {
        RankEntry x = new RankEntry();
        Kit.serve(x, 0, 0, 256, 18);
        Kit.does(x, 17, 1);
        Kit.does(x, 16, 1);
        Kit.tries(x, 255);
        x.pend(0);
        Kit.due(22, "state(12)", x.state(12), 0);
        Kit.due(22, "state(13)", x.state(13), 20);
        Kit.due(14, "till(20)", x.till(20), 6);
        RankEntry y = new RankEntry();
        Kit.serve(y, 0, 0, 256, 18);
        Kit.tries(y, 255);
        y.pend(0);
        Kit.due(22, "state(13), both CAN", y.state(13), 20);
        Kit.due(26, "ahead(20, 0)", y.ahead(20, 0), true);
        y.clear(20);
        Kit.due(22, "state(13), one CAN", y.state(13), 0);
    }

    /** The GROUP of HARD, -1, is the LIMIT as long as it is ACTIVE: not even the rank 0 breaks in. */
    private static void hardShutsAllOut() {
        RankEntry x = new RankEntry();
        x.vector(20, 256);
        Kit.put(x, 256, 11, 1, 0);
        for (int i = 0; i < 20; i++) {
            x.rank(i, 0);
            x.enable(i, true);
        }
        x.enable(18, false);
        Kit.tries(x, 255);
        x.till(20);
        for (int i = 0; i < 20; i++) {
            x.pend(i);
        }
        Kit.due(22, "state(13)", x.state(13), -1);
        Kit.due(30, "order(0, false)", x.order(0, false), -1);
        x.run(50);
        Kit.due(23, "count(1)", x.count(1), 1);
        Kit.put(x, 256, 18);
        x.run(3);
        Kit.due(21, "nest(0), chained behind it", x.nest(0), 0);
    }

    /** "The ACTIVE ones are a row, the NEST, as they began; the last is the innermost": all 21 of them. */
    private static void deepestNest() {
        RankEntry x = new RankEntry();
        x.vector(20, 256);
        for (int i = 0; i < 20; i++) {
            x.rank(i, 19 - i);
            x.vector(i, 256);
            x.enable(i, i < 18);
        }
        Kit.put(x, 256, 11, 1, 0);
        for (int i = 0; i < 18; i++) {
            nests(x, i);
        }
        x.enable(18, true);
        nests(x, 18);
        x.enable(19, true);
        nests(x, 19);
        Kit.put(x, 256, 255);
        x.run(1);
        Kit.due(22, "state(12)", x.state(12), 0);
        Kit.due(13, "HARD comes", x.state(13), 20);
        x.run(6);
        for (int i = 0; i < 21; i++) {
            Kit.due(21, "nest(" + i + ")", x.nest(i), i);
            Kit.due(20, "source(" + i + ", 4)", x.source(i, 4), 1);
        }
        Kit.due(21, "nest(21)", x.nest(21), -1);
        Kit.due(23, "count(11)", x.count(11), 21);
        Kit.due(23, "count(12)", x.count(12), 21);
        Kit.due(23, "count(1)", x.count(1), 21);
        Kit.due(22, "state(5), it was full at 16", x.state(5), 96);
        Kit.due(13, "run(9), it locks", x.run(9), 1);
        Kit.due(15, "reset()", x.reset(), 21);
        Kit.due(23, "count(11)", x.count(11), 0);
        Kit.due(23, "count(12)", x.count(12), 0);
    }

    /** What is raised because there is no room is taken back by hand, so that the nest goes on. */
    private static void nests(RankEntry x, int source) {
        x.pend(source);
        x.run(5);
        x.clear(20);
        if (source != 19) {
            x.clear(19);
        }
        x.run(1);
        Kit.due(21, "nest(" + source + ")", x.nest(source), source);
        Kit.due(13, "raised", x.count(7), source < 16 ? 0 : source - 15);
    }

    /** "one that is PENDING stays as it is, and is MERGED (counted)": in each way in which it BECOMES PENDING. */
    private static void mergedInEachWay() {
        RankEntry x = new RankEntry();
        x.pend(9);
        Kit.due(9, "count(9), the first time", x.count(9), 0);
        x.pend(9);
        Kit.due(9, "count(9), pend", x.count(9), 1);
        x.hold(9, true);
        Kit.due(8, "count(9), hold", x.count(9), 2);
        Kit.does(x, 14, 9);
        Kit.due(13, "count(9), 14", x.count(9), 3);
        x.arrive(9, 1);
        x.arrive(9, 1);
        Kit.does(x, 1, 0, 0);
        Kit.due(12, "count(9), two arrivals", x.count(9), 5);
        x.timer(1);
        Kit.does(x, 1, 0, 0);
        Kit.due(11, "count(9), the timer the first time", x.count(9), 5);
        Kit.does(x, 1, 0, 0);
        Kit.due(11, "count(9), the timer", x.count(9), 6);
        faultMerges();
        hardMerges();
        returnMerges();
    }

    /** FULL is PENDING already as its own STACKING has no room. */
    private static void faultMerges() {
        RankEntry y = Kit.idle();
        Kit.serve(y, 19, 30, 256, 18);
        Kit.serve(y, 3, 40, 300, 18);
        Kit.levels(y, 96);
        y.pend(3);
        y.pend(19);
        y.run(1);
        Kit.due(13, "count(7), no room", y.count(7), 1);
        Kit.due(13, "count(9), FULL was pending already", y.count(9), 1);
        Kit.dueEvent(24, y, 0, 3, 19, y.count(0), y.state(4));
        y.run(5);
        Kit.due(13, "waited(19), from the first time on", y.waited(19), 6);
    }

    /** HARD is PENDING, its STACKING has no room: ESCALATED again, and MERGED. */
    private static void hardMerges() {
        RankEntry x = new RankEntry();
        Kit.levels(x, 96);
        Kit.tries(x, 255);
        Kit.due(13, "count(8)", x.count(8), 1);
        Kit.due(13, "count(9)", x.count(9), 0);
        x.run(1);
        Kit.due(13, "count(7), no room", x.count(7), 2);
        Kit.due(13, "count(8), again", x.count(8), 2);
        Kit.due(13, "count(9), merged", x.count(9), 1);
        x.run(5);
        Kit.due(25, "waited(20), from the first time on", x.waited(20), 6);
        Kit.due(23, "count(3), it was the first", x.count(3), 0);
    }

    /** "if it is HELD it BECOMES PENDING": it is so already, if it was told again while it was ACTIVE. */
    private static void returnMerges() {
        RankEntry x = Kit.idle();
        Kit.serve(x, 9, 50, 256, 18);
        x.hold(9, true);
        x.till(9);
        x.pend(9);
        Kit.due(13, "count(9), it is active only", x.count(9), 0);
        int since = x.count(0);
        x.run(1);
        Kit.due(13, "count(9), at its end", x.count(9), 1);
        Kit.due(14, "till(9)", x.till(9), 2);
        Kit.dueEvent(24, x, 0, 1, 9, since + 3, 3);
    }

    /** "HOLD of a LEVEL: it is HELD and BECOMES PENDING", also while it is ACTIVE. */
    private static void heldOnes() {
        RankEntry x = Kit.idle();
        Kit.serve(x, 12, 50, 256, 11, 1, 0);
        x.pend(12);
        x.till(12);
        Kit.due(8, "held", x.source(12, 5), 0);
        Kit.due(8, "hold(12, true), active", x.hold(12, true), true);
        Kit.due(8, "held", x.source(12, 5), 1);
        Kit.due(8, "pending", x.source(12, 3), 1);
        Kit.due(8, "count(9)", x.count(9), 0);
        Kit.due(8, "state(13), its own group", x.state(13), -1);
        Kit.due(8, "hold(12, false), active", x.hold(12, false), true);
        Kit.due(8, "pending stays", x.source(12, 3), 1);
        Kit.due(10, "clear(12)", x.clear(12), true);
        Kit.due(8, "hold(12, true) once more", x.hold(12, true), true);
        Kit.due(10, "clear(12), held", x.clear(12), false);
        Kit.does(x, 15, 12);
        Kit.due(13, "15: pending, held", x.source(12, 3), 1);
        Kit.does(x, 15, 30);
        Kit.due(13, "15: 30 is 12, held", x.source(12, 3), 1);
        x.hold(12, false);
        Kit.does(x, 15, 30);
        Kit.due(13, "15: held no more", x.source(12, 3), 0);
    }
}
