/** Promises 16 to 25: what can be asked, with its edges and wrong inputs. */
public final class AskingTest {
    private static final int MIN = Integer.MIN_VALUE;
    private static final int MAX = Integer.MAX_VALUE;

    public static void main(String[] args) {
        reg();
        word();
        data();
        source();
        nest();
        state();
        count();
        event();
        waited();
        Kit.end("AskingTest");
    }

    private static void reg() {
        RankEntry x = Kit.with(0, 1, 0, 10, 1, 1, 11, 1, 7, 17, 20, 0, 8, 20, 3, 255, 11, 0, 15);
        x.run(5);
        Kit.due(16, "reg(0)", Kit.reg(x, 0), 10);
        Kit.due(16, "reg(1)", Kit.reg(x, 1), 11);
        Kit.due(16, "reg(7)", Kit.reg(x, 7), 17);
        Kit.due(16, "reg(8)", Kit.reg(x, 8), Float.floatToIntBits(0.5f));
        Kit.due(16, "reg(9)", Kit.reg(x, 9), 0);
        Kit.due(16, "reg(11)", Kit.reg(x, 11), Float.floatToIntBits(15.9375f));
        for (int i : new int[] {-1, 12, MIN, MAX}) {
            Kit.due(16, "reg(" + i + ")", Kit.reg(x, i), Kit.NO_ELEMENT);
        }
    }

    private static void word() {
        RankEntry x = Kit.with(0, 1, 0, 10, 9, 0, 11, 0, 3);
        x.run(1 + 96 * 2);
        Kit.due(17, "word(0)", Kit.word(x, 0), 10);
        Kit.due(17, "word(95)", Kit.word(x, 95), 10);
        for (int i : new int[] {-1, 96, MIN, MAX}) {
            Kit.due(17, "word(" + i + ")", Kit.word(x, i), Kit.NO_INDEX);
        }
    }

    private static void data() {
        RankEntry x = Kit.with(0, 1, 0, 10, 29, 0, 0, 29, 0, 15, 11, 0, 9);
        x.run(3);
        Kit.due(18, "data(0)", Kit.data(x, 0), 10);
        Kit.due(18, "data(1)", Kit.data(x, 1), 0);
        Kit.due(18, "data(15)", Kit.data(x, 15), 10);
        for (int i : new int[] {-1, 16, MIN, MAX}) {
            Kit.due(18, "data(" + i + ")", Kit.data(x, i), Kit.NO_INDEX);
        }
    }

    private static void source() {
        RankEntry x = Kit.idle();
        Kit.serve(x, 8, 77, 64, 11, 0, 64);
        x.split(3);
        x.hold(8, true);
        int[] waiting = {77, 64, 1, 1, 0, 1, 9, 5};
        for (int what = 0; what < 8; what++) {
            Kit.due(20, "source(8, " + what + ")", x.source(8, what), waiting[what]);
        }
        x.run(6);
        int[] active = {77, 64, 1, 0, 1, 1, 9, 5};
        for (int what = 0; what < 8; what++) {
            Kit.due(20, "source(8, " + what + "), active", x.source(8, what), active[what]);
        }
        int[] hard = {-1, 0, 1, 0, 0, 0, -1, 0};
        for (int what = 0; what < 8; what++) {
            Kit.due(20, "source(20, " + what + ")", x.source(20, what), hard[what]);
        }
        for (int source : new int[] {-1, 21, MIN, MAX}) {
            Kit.due(20, "source(" + source + ", 0)", x.source(source, 0), -2);
        }
        for (int what : new int[] {-1, 8, MIN, MAX}) {
            Kit.due(20, "source(0, " + what + ")", x.source(0, what), -2);
            Kit.due(20, "source(20, " + what + ")", x.source(20, what), -2);
        }
    }

    private static void nest() {
        RankEntry x = Kit.idle();
        Kit.serve(x, 4, 90, 64, 11, 0, 64);
        Kit.serve(x, 7, 20, 64, 11, 0, 64);
        x.pend(4);
        x.till(4);
        x.pend(7);
        x.till(7);
        Kit.due(21, "nest(0)", x.nest(0), 4);
        Kit.due(21, "nest(1)", x.nest(1), 7);
        for (int i : new int[] {-1, 2, 21, MIN, MAX}) {
            Kit.due(21, "nest(" + i + ")", x.nest(i), -1);
        }
    }

    private static void state() {
        RankEntry x = Kit.with(0, 20, 0, 16, 17, 99, 5, 0, 1);
        x.split(1);
        x.timer(7);
        for (int what : new int[] {-1, 16, MIN, MAX}) {
            Kit.due(22, "state(" + what + ")", x.state(what), -2);
        }
        x.run(2);
        int[] want = {0, 0, 0, 0, 5, 0, 0, 0, 0, 99, 1, -1, 49, -1, 1, 5};
        for (int what = 0; what < 16; what++) {
            Kit.due(22, "state(" + what + ")", x.state(what), want[what]);
        }
        // 0 / 0 is WRONG: HARD comes, and the state is stacked with FOURS
        x.run(4);
        int[] stacking = {1, 3, 0, 0, 5, 7, 0, 0, 0, 99, 1, 0, 49, 20, 1, 1};
        for (int what = 0; what < 16; what++) {
            Kit.due(22, "state(" + what + "), stacking", x.state(what), stacking[what]);
        }
        RankEntry y = Kit.with(0, 1, 1, 2, 16, 1, 3, 0, 1, 4, 0, 1, 19);
        int[] shut = {0, 0, 1, 0, 11, 0, 0, 1, 1, 0, 0, -1, 0, -1, 0, 0};
        y.run(4);
        for (int what = 0; what < 16; what++) {
            Kit.due(22, "state(" + what + "), shut and stalled", y.state(what), shut[what]);
        }
        y.run(2);
        Kit.due(22, "state(3), asleep", y.state(3), 1);
        RankEntry z = Kit.with(0, 6, 0, 0, 11, 0, 3);
        z.run(1);
        Kit.due(22, "state(6)", z.state(6), 1);
        Kit.due(22, "state(7)", z.state(7), 0);
    }

    private static void count() {
        RankEntry x = Kit.idle();
        for (int what : new int[] {-1, 17, MIN, MAX}) {
            Kit.due(23, "count(" + what + ")", x.count(what), -1);
        }
        Kit.serve(x, 3, 60, 64, 27, 0, 18);
        Kit.serve(x, 2, 50, 80, 9, 0, 10, 0, 18);
        x.pend(3);
        x.run(2);
        x.pend(2);
        x.pend(2);
        x.arrive(0, 100);
        // 2 begins late at 6, ends at 9; 3 is chained at 11, ends at 13; unstacking till 19
        x.run(10);
        int[] want = {12, 2, 1, 1, 0, 0, 0, 0, 0, 1, 4, 1, 1, 7, 1, 1, 3};
        for (int what = 0; what <= 16; what++) {
            Kit.due(23, "count(" + what + ")", x.count(what), want[what]);
        }
        x.run(3);
        x.pend(2);
        x.run(3);
        int[] then = {18, 3, 2, 1, 1, 0, 0, 0, 0, 1, 6, 1, 1, 7, 1, 1, 6};
        for (int what = 0; what <= 16; what++) {
            Kit.due(23, "count(" + what + "), abandoned", x.count(what), then[what]);
        }
    }

    private static void event() {
        RankEntry x = Kit.idle();
        Kit.due(24, "event(0, 0), none", Kit.event(x, 0, 0), Kit.NO_ELEMENT);
        Kit.serve(x, 8, 60, 64, 18);
        x.hold(8, true);
        x.run(7);
        Kit.dueEvent(24, x, 0, 2, 8, 7, 1);
        Kit.dueEvent(24, x, 1, 0, 8, 6, 6);
        Kit.due(24, "event(2, 0), none such", Kit.event(x, 2, 0), Kit.NO_ELEMENT);
        for (int what : new int[] {-1, 4, MIN, MAX}) {
            Kit.due(24, "event(0, " + what + ")", Kit.event(x, 0, what), Kit.NO_ELEMENT);
        }
        x.run(30);
        // every three cycles one begins by a chain and ends: the last at 36 and 37, ten more of each
        Kit.due(23, "count(16)", x.count(16), 22);
        Kit.dueEvent(24, x, 0, 2, 8, 37, 1);
        Kit.dueEvent(24, x, 1, 1, 8, 36, 2);
        Kit.dueEvent(24, x, 21, 0, 8, 6, 6);
        Kit.due(24, "event(22, 0)", Kit.event(x, 22, 0), Kit.NO_ELEMENT);
        x.run(30);
        Kit.due(23, "count(16), 24 at most", x.count(16), 24);
        Kit.dueEvent(24, x, 0, 2, 8, 67, 1);
        for (int i = 0; i < 24; i += 2) {
            Kit.dueEvent(24, x, i, 2, 8, 67 - i / 2 * 3, 1);
            Kit.dueEvent(24, x, i + 1, 1, 8, 66 - i / 2 * 3, 2);
        }
        for (int i : new int[] {-1, 24, MIN, MAX}) {
            Kit.due(24, "event(" + i + ", 0)", Kit.event(x, i, 0), Kit.NO_ELEMENT);
        }
        x.hold(8, false);
        x.clear(8);
        x.run(8);
        Kit.dueEvent(24, x, 0, 5, -1, 75, 0);
    }

    private static void waited() {
        RankEntry x = Kit.idle();
        Kit.serve(x, 3, 60, 64, 18);
        Kit.serve(x, 2, 50, 64, 5, 0, 1, 18);
        Kit.put(x, 64, 18);
        for (int source : new int[] {-1, 21, MIN, MAX, 3, 20}) {
            Kit.due(25, "waited(" + source + ")", x.waited(source), -1);
        }
        x.pend(2);
        x.pend(3);
        Kit.due(25, "waited(3), pending", x.waited(3), -1);
        x.till(3);
        Kit.due(25, "waited(2)", x.waited(2), 6);
        Kit.due(25, "waited(3)", x.waited(3), 9);
        x.run(30);
        x.pend(3);
        x.till(3);
        Kit.due(25, "event(0, 3)", Kit.event(x, 0, 3), 6);
        Kit.due(25, "waited(3), the most", x.waited(3), 9);
        RankEntry y = Kit.with(0, 1, 1, 1, 5, 0, 1, 11, 0, 6);
        Kit.serve(y, 3, 60, 64, 18);
        y.run(2);
        y.pend(3);
        y.till(3);
        Kit.due(25, "waited(3), the stall too", y.waited(3), 9);
        RankEntry z = Kit.idle();
        Kit.serve(z, 3, 60, 64, 18);
        z.arrive(3, 4);
        z.run(3);
        z.clear(3);
        z.till(3);
        Kit.due(25, "waited(3), from the cycle of its arrival", z.waited(3), 5);
    }
}
