import java.util.NoSuchElementException;
import java.util.function.ToLongFunction;

/** Promises 2 to 35: each refused call ("false: others", "NONE: others", "-2: others", the exceptions) changes nothing. */
public final class CallEdgesTest {
    private static final int[] PHASES = {0, 0, 0, 1, 2, 3, 4, 5, 0};
    private static final int[] DEPTHS = {0, 0, 0, 0, 0, 0, 1, 1, 2};

    private static String where;
    private static RankEntry at;

    public static void main(String[] args) {
        for (int scene = 0; scene < Scenes.ALL; scene++) {
            at = Scenes.of(scene);
            where = "scene " + scene + ": ";
            Kit.due(22, where + "the phase", at.state(0), PHASES[scene]);
            Kit.due(23, where + "the nest", at.count(11), DEPTHS[scene]);
            byHand();
            asked();
            asides();
            byState(scene);
        }
        lastOnes();
        Kit.end("CallEdgesTest");
    }

    private static void refused(int promise, String call, ToLongFunction<RankEntry> asks, long want) {
        String before = Kit.seen(at);
        long got;
        try {
            got = asks.applyAsLong(at);
        } catch (NoSuchElementException e) {
            got = Kit.NO_ELEMENT;
        } catch (IndexOutOfBoundsException e) {
            got = e.getClass() == IndexOutOfBoundsException.class ? Kit.NO_INDEX : Kit.NO_INDEX + 1;
        }
        Kit.due(promise, where + call, got, want);
        Kit.due(promise, where + call + " changes nothing", Kit.seen(at).equals(before), true);
    }

    private static long bit(boolean answer) {
        return answer ? 1 : 0;
    }

    private static void byHand() {
        for (int i : Kit.outside(0, 504)) {
            refused(2, "load(" + i + ", -1)", x -> bit(x.load(i, -1L)), 0);
        }
        for (int i : Kit.outside(0, 511)) {
            refused(3, "code(" + i + ")", x -> x.code(i), -1);
            refused(6, "vector(3, " + i + ")", x -> bit(x.vector(3, i)), 0);
        }
        for (int i : Kit.outside(0, 19)) {
            refused(4, "rank(" + i + ", 7)", x -> bit(x.rank(i, 7)), 0);
            refused(5, "enable(" + i + ", true)", x -> bit(x.enable(i, true)), 0);
            refused(5, "enable(" + i + ", false)", x -> bit(x.enable(i, false)), 0);
            refused(9, "pend(" + i + ")", x -> bit(x.pend(i)), 0);
        }
        for (int i : Kit.outside(0, 255)) {
            refused(4, "rank(4, " + i + ")", x -> bit(x.rank(4, i)), 0);
        }
        for (int i : Kit.outside(0, 20)) {
            refused(6, "vector(" + i + ", 7)", x -> bit(x.vector(i, 7)), 0);
            refused(10, "clear(" + i + ")", x -> bit(x.clear(i)), 0);
            refused(14, "till(" + i + ")", x -> x.till(i), -1);
        }
        for (int i : Kit.outside(0, 7)) {
            refused(7, "split(" + i + ")", x -> bit(x.split(i)), 0);
        }
        for (int i : Kit.outside(8, 15)) {
            refused(8, "hold(" + i + ", true)", x -> bit(x.hold(i, true)), 0);
            refused(8, "hold(" + i + ", false)", x -> bit(x.hold(i, false)), 0);
        }
        for (int i : Kit.outside(0, 999)) {
            refused(11, "timer(" + i + ")", x -> bit(x.timer(i)), 0);
        }
        for (int i : Kit.outside(0, 17)) {
            refused(12, "arrive(" + i + ", 5)", x -> bit(x.arrive(i, 5)), 0);
        }
        for (int i : Kit.outside(1, 999)) {
            refused(12, "arrive(3, " + i + ")", x -> bit(x.arrive(3, i)), 0);
        }
        for (int i : Kit.outside(1, 200)) {
            refused(13, "run(" + i + ")", x -> x.run(i), -1);
        }
    }

    private static void asked() {
        for (int i : Kit.outside(0, 11)) {
            refused(16, "reg(" + i + ")", x -> x.reg(i), Kit.NO_ELEMENT);
        }
        for (int i : Kit.outside(0, 95)) {
            refused(17, "word(" + i + ")", x -> x.word(i), Kit.NO_INDEX);
        }
        for (int i : Kit.outside(0, 15)) {
            refused(18, "data(" + i + ")", x -> x.data(i), Kit.NO_INDEX);
            refused(22, "state(" + i + ")", x -> x.state(i), -2);
        }
        for (int i : Kit.outside(0, at.count(15) - 1)) {
            refused(19, "out(" + i + ")", x -> x.out(i), Kit.NO_ELEMENT);
        }
        for (int i : Kit.outside(0, 20)) {
            for (int what = -1; what < 9; what++) {
                int w = what;
                refused(20, "source(" + i + ", " + w + ")", x -> x.source(i, w), -2);
            }
            refused(25, "waited(" + i + ")", x -> x.waited(i), -1);
        }
        for (int i : Kit.outside(0, 7)) {
            refused(20, "source(3, " + i + ")", x -> x.source(3, i), -2);
        }
        for (int i : Kit.outside(0, at.count(11) - 1)) {
            refused(21, "nest(" + i + ")", x -> x.nest(i), -1);
        }
        for (int i : Kit.outside(0, 16)) {
            refused(23, "count(" + i + ")", x -> x.count(i), -1);
        }
        for (int i : Kit.outside(0, at.count(16) - 1)) {
            refused(24, "event(" + i + ", 0)", x -> x.event(i, 0), Kit.NO_ELEMENT);
        }
        for (int i : Kit.outside(0, 3)) {
            refused(24, "event(0, " + i + ")", x -> x.event(0, i), Kit.NO_ELEMENT);
        }
    }

    private static void asides() {
        for (int i : Kit.outside(0, 20)) {
            refused(26, "ahead(" + i + ", 3)", x -> bit(x.ahead(i, 3)), 0);
            refused(26, "ahead(3, " + i + ")", x -> bit(x.ahead(3, i)), 0);
            refused(26, "ahead(" + i + ", " + i + ")", x -> bit(x.ahead(i, i)), 0);
            refused(27, "splits(" + i + ")", x -> x.splits(i), -1);
            refused(29, "soon(" + i + ")", x -> x.soon(i), -1);
            refused(34, "cost(" + i + ")", x -> x.cost(i), -1);
            refused(35, "pushes(" + i + ")", x -> x.pushes(i), -1);
        }
        for (int i : Kit.outside(18, 19)) {
            refused(28, "escalates(" + i + ")", x -> x.escalates(i), -1);
        }
        for (int i : new int[] {-1, -2, -256, Integer.MIN_VALUE, Integer.MAX_VALUE, 300}) {
            refused(30, "order(" + i + ", false)", x -> x.order(i, false), -1);
            refused(30, "order(" + i + ", true)", x -> x.order(i, true), -1);
        }
        for (int i : Kit.outside(0, 17)) {
            refused(32, "window(" + i + ")", x -> x.window(i), -1);
        }
    }

    /** What is refused because it is so already, is ACTIVE, HELD, not PENDING or LOCKED. */
    private static void byState(int scene) {
        for (int i = 0; i < 21; i++) {
            int s = i;
            if (at.source(s, 4) == 1) {
                refused(4, "rank(" + s + ", 7), active", x -> bit(x.rank(s, 7)), 0);
                refused(4, "rank(" + s + ", its own), active", x -> bit(x.rank(s, x.source(s, 0))), 0);
            }
            if (at.source(s, 3) == 0 || at.source(s, 5) == 1) {
                refused(10, "clear(" + s + ")", x -> bit(x.clear(s)), 0);
            }
            if (s >= 8 && s <= 15) {
                boolean held = at.source(s, 5) == 1;
                refused(8, "hold(" + s + "), so already", x -> bit(x.hold(s, held)), 0);
            }
        }
        for (int i = 0; i < 8 && at.count(11) > 0; i++) {
            int split = i;
            refused(7, "split(" + split + "), any is active", x -> bit(x.split(split)), 0);
        }
        if (scene == Scenes.LOCKED) {
            refused(13, "run(1), locked", x -> x.run(1), 0);
            refused(13, "run(200), locked", x -> x.run(200), 0);
            for (int i = 0; i < 21; i++) {
                int s = i;
                refused(14, "till(" + s + "), locked", x -> x.till(s), -1);
                refused(29, "soon(" + s + "), locked", x -> x.soon(s), -1);
            }
        }
        for (int i = at.count(14); i < 32; i++) {
            Kit.due(12, where + "arrive(3, 999)", at.arrive(3, 999), true);
        }
        refused(12, "arrive(3, 999), 32 are there", x -> bit(x.arrive(3, 999)), 0);
        refused(12, "arrive(0, 1), 32 are there", x -> bit(x.arrive(0, 1)), 0);
        String before = Kit.seen(at);
        Kit.due(9, where + "pend(5)", at.pend(5), scene == 0);
        Kit.due(9, where + "pend(5), so already", at.pend(5), false);
        Kit.due(9, where + "count(9)", at.count(9), scene == 0 ? 1 : 3);
        Kit.due(9, where + "it is counted", Kit.seen(at).equals(before), false);
    }

    /** The first and the last that is not refused, of each bound. */
    private static void lastOnes() {
        for (int scene = 0; scene < Scenes.ALL; scene++) {
            RankEntry x = Scenes.of(scene);
            where = "scene " + scene + ": ";
            for (int at : new int[] {0, 504}) {
                Kit.due(2, where + "load(" + at + ", ..)", x.load(at, 0x0102030405060708L), true);
                for (int i = 0; i < 8; i++) {
                    Kit.due(3, where + "code(" + (at + i) + ")", x.code(at + i), i + 1);
                }
            }
            for (int source : new int[] {0, 19}) {
                for (int rank : new int[] {0, 255, 128}) {
                    Kit.due(4, where + "rank(" + source + ", " + rank + ")", x.rank(source, rank), true);
                    Kit.due(4, where + "its rank", x.source(source, 0), rank);
                }
                Kit.due(5, where + "enable(" + source + ", true)", x.enable(source, true), true);
                Kit.due(5, where + "it is", x.source(source, 2), 1);
                Kit.due(5, where + "enable(" + source + ", false)", x.enable(source, false), true);
                Kit.due(5, where + "it is not", x.source(source, 2), 0);
                Kit.due(9, where + "pend(" + source + ")", x.pend(source), true);
                Kit.due(10, where + "clear(" + source + ")", x.clear(source), true);
            }
            for (int source : new int[] {0, 20}) {
                for (int at : new int[] {0, 511}) {
                    Kit.due(6, where + "vector(" + source + ", " + at + ")", x.vector(source, at), true);
                    Kit.due(6, where + "its vector", x.source(source, 1), at);
                }
            }
            for (int source : new int[] {8, 15}) {
                Kit.due(8, where + "hold(" + source + ", true)", x.hold(source, true), true);
                Kit.due(8, where + "hold(" + source + ", false)", x.hold(source, false), true);
                Kit.due(8, where + "pending stays", x.source(source, 3), 1);
            }
            for (int period : new int[] {999, 1, 0}) {
                Kit.due(11, where + "timer(" + period + ")", x.timer(period), true);
                Kit.due(11, where + "its count", x.state(15), period);
            }
            for (int source : new int[] {0, 17}) {
                for (int cycles : new int[] {1, 999}) {
                    int before = x.count(14);
                    Kit.due(12, where + "arrive(" + source + ", " + cycles + ")", x.arrive(source, cycles), true);
                    Kit.due(12, where + "one more is there", x.count(14), before + 1);
                }
            }
            if (x.count(11) == 0) {
                for (int split : new int[] {7, 0}) {
                    Kit.due(7, where + "split(" + split + ")", x.split(split), true);
                    Kit.due(7, where + "it is so", x.state(14), split);
                }
            }
        }
    }
}
