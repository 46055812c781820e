/** Machines that stand in every phase, with something of everything in them. */
final class Scenes {
    static final int STALLED = 1;
    static final int ASLEEP = 2;
    static final int STACKING = 3;
    static final int CHAINING = 4;
    static final int UNSTACKING = 5;
    static final int SAVING = 6;
    static final int LOCKED = 7;
    static final int NESTED = 8;
    static final int ALL = 9;

    private Scenes() {
    }

    /** The scene 0 is a new object. */
    static RankEntry of(int scene) {
        if (scene == 0) {
            return new RankEntry();
        }
        RankEntry x = begun();
        switch (scene) {
            case STALLED: divide(x); break;
            case ASLEEP: Kit.does(x, 19); break;
            case STACKING: stack(x); break;
            case CHAINING: chain(x); break;
            case UNSTACKING: unstack(x); break;
            case SAVING: save(x); break;
            case LOCKED: lock(x); break;
            default: nest(x); break;
        }
        return x;
    }

    /** A held level and a pulse that are not enabled, numbers in all registers, the timer on, two arrivals, two told. */
    private static RankEntry begun() {
        RankEntry x = new RankEntry();
        x.split(2);
        x.timer(500);
        x.vector(20, 128);
        Kit.serve(x, 2, 60, 80, 18);
        Kit.serve(x, 3, 90, 96, 18);
        for (int i = 0; i < 8; i++) {
            Kit.does(x, 1, i, 10 + i);
        }
        for (int i = 0; i < 4; i++) {
            Kit.does(x, 20, i, 16 + i);
        }
        Kit.does(x, 27, 1);
        Kit.does(x, 27, 2);
        Kit.does(x, 9, 3);
        Kit.does(x, 29, 4, 5);
        Kit.does(x, 17, 200);
        Kit.does(x, 3, 5, 6);
        x.hold(9, true);
        x.pend(5);
        x.pend(5);
        x.arrive(4, 700);
        x.arrive(17, 800);
        return x;
    }

    private static void divide(RankEntry x) {
        Kit.put(x, x.state(4), 5, 0, 1);
        x.run(1);
    }

    private static void stack(RankEntry x) {
        x.pend(3);
        x.run(3);
    }

    private static void chain(RankEntry x) {
        x.pend(3);
        x.pend(2);
        x.run(8);
    }

    private static void unstack(RankEntry x) {
        x.pend(3);
        x.run(9);
    }

    private static void save(RankEntry x) {
        Kit.put(x, 96, 20, 0, 1, 18);
        x.pend(3);
        x.run(8);
    }

    private static void lock(RankEntry x) {
        Kit.put(x, x.state(4), 255);
        Kit.put(x, 128, 255);
        x.run(20);
    }

    private static void nest(RankEntry x) {
        x.pend(3);
        x.run(6);
        x.pend(2);
        x.run(6);
    }
}
