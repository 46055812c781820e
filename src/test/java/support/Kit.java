import java.util.NoSuchElementException;

/** What the tests share: counting wrong answers, and putting code and sources into a machine. */
final class Kit {
    static final int NO_ELEMENT = Integer.MIN_VALUE + 7;
    static final int NO_INDEX = Integer.MIN_VALUE + 8;
    private static int wrong = 0;
    private static int asked = 0;

    private Kit() {
    }

    static void due(int promise, String what, long got, long want) {
        asked++;
        if (got != want) {
            wrong++;
            System.out.println("promise " + promise + ": " + what + " answered " + got + ", due is " + want);
        }
    }

    static void due(int promise, String what, boolean got, boolean want) {
        due(promise, what, got ? 1 : 0, want ? 1 : 0);
    }

    static void end(String test) {
        System.out.println(test + ": " + asked + " answers, " + wrong + " not as due");
        if (wrong != 0) {
            System.exit(1);
        }
    }

    /** A machine whose code at 0 jumps to itself for ever. */
    static RankEntry idle() {
        return with(0, 11, 0, 0);
    }

    static RankEntry with(int at, int... bytes) {
        RankEntry x = new RankEntry();
        put(x, at, bytes);
        return x;
    }

    /** Bytes from a place on; those around them stay. */
    static void put(RankEntry x, int at, int... bytes) {
        for (int i = 0; i < bytes.length; i += 8) {
            int from = Math.min(at + i, 504);
            long word = 0;
            for (int k = 0; k < 8; k++) {
                int place = from + k - at;
                boolean mine = place >= 0 && place < bytes.length;
                word = word << 8 | (mine ? bytes[place] : x.code(from + k));
            }
            x.load(from, word);
        }
    }

    /** A source with a rank and a vector, enabled, with code at its vector. */
    static void serve(RankEntry x, int source, int rank, int at, int... bytes) {
        x.rank(source, rank);
        x.vector(source, at);
        x.enable(source, true);
        put(x, at, bytes);
    }

    /** An answer, or a number for the exception that is thrown instead. */
    static int reg(RankEntry x, int i) {
        try {
            return x.reg(i);
        } catch (NoSuchElementException e) {
            return NO_ELEMENT;
        }
    }

    static int out(RankEntry x, int i) {
        try {
            return x.out(i);
        } catch (NoSuchElementException e) {
            return NO_ELEMENT;
        }
    }

    static int event(RankEntry x, int i, int what) {
        try {
            return x.event(i, what);
        } catch (NoSuchElementException e) {
            return NO_ELEMENT;
        }
    }

    static int word(RankEntry x, int cell) {
        try {
            return x.word(cell);
        } catch (IndexOutOfBoundsException e) {
            return e.getClass() == IndexOutOfBoundsException.class ? NO_INDEX : NO_INDEX + 1;
        }
    }

    static int data(RankEntry x, int at) {
        try {
            return x.data(at);
        } catch (IndexOutOfBoundsException e) {
            return e.getClass() == IndexOutOfBoundsException.class ? NO_INDEX : NO_INDEX + 1;
        }
    }

    /** An event's four fields, compared at once. */
    static void dueEvent(int promise, RankEntry x, int i, int kind, int source, int clock, int detail) {
        int[] want = {kind, source, clock, detail};
        for (int k = 0; k < 4; k++) {
            due(promise, "event(" + i + ", " + k + ")", event(x, i, k), want[k]);
        }
    }
}
