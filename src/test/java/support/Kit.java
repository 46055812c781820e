import java.util.NoSuchElementException;

/** What the tests share: counting wrong answers, and putting code and sources into a machine. */
final class Kit {
    static final int NO_ELEMENT = Integer.MIN_VALUE + 7;
    static final int NO_INDEX = Integer.MIN_VALUE + 8;
    private static int wrong = 0;
    private static int asked = 0;

    private Kit() {
    }

    static void due(int promise, String what, long got, long want) {
        asked++;
        if (got != want) {
            wrong++;
            System.out.println("promise " + promise + ": " + what + " answered " + got + ", due is " + want);
        }
    }

    static void due(int promise, String what, boolean got, boolean want) {
        due(promise, what, got ? 1 : 0, want ? 1 : 0);
    }

    static void end(String test) {
        System.out.println(test + ": " + asked + " answers, " + wrong + " not as due");
        if (wrong != 0) {
            System.exit(1);
        }
    }

    /** A machine whose code at 0 jumps to itself for ever. */
    static RankEntry idle() {
        return with(0, 11, 0, 0);
    }

    static RankEntry with(int at, int... bytes) {
        RankEntry x = new RankEntry();
        put(x, at, bytes);
        return x;
    }

    /** Bytes from a place on; those around them stay. */
    static void put(RankEntry x, int at, int... bytes) {
        for (int i = 0; i < bytes.length; i += 8) {
            int from = Math.min(at + i, 504);
            long word = 0;
            for (int k = 0; k < 8; k++) {
                int place = from + k - at;
                boolean mine = place >= 0 && place < bytes.length;
                word = word << 8 | (mine ? bytes[place] : x.code(from + k));
            }
            x.load(from, word);
        }
    }

    /** A source with a rank and a vector, enabled, with code at its vector. */
    static void serve(RankEntry x, int source, int rank, int at, int... bytes) {
        x.rank(source, rank);
        x.vector(source, at);
        x.enable(source, true);
        put(x, at, bytes);
    }

    /** An answer, or a number for the exception that is thrown instead. */
    static int reg(RankEntry x, int i) {
        try {
            return x.reg(i);
        } catch (NoSuchElementException e) {
            return NO_ELEMENT;
        }
    }

    static int out(RankEntry x, int i) {
        try {
            return x.out(i);
        } catch (NoSuchElementException e) {
            return NO_ELEMENT;
        }
    }

    static int event(RankEntry x, int i, int what) {
        try {
            return x.event(i, what);
        } catch (NoSuchElementException e) {
            return NO_ELEMENT;
        }
    }

    static int word(RankEntry x, int cell) {
        try {
            return x.word(cell);
        } catch (IndexOutOfBoundsException e) {
            return e.getClass() == IndexOutOfBoundsException.class ? NO_INDEX : NO_INDEX + 1;
        }
    }

    static int data(RankEntry x, int at) {
        try {
            return x.data(at);
        } catch (IndexOutOfBoundsException e) {
            return e.getClass() == IndexOutOfBoundsException.class ? NO_INDEX : NO_INDEX + 1;
        }
    }

    /** One byte of code, behind 511 comes 0. */
    static void putByte(RankEntry x, int at, int value) {
        put(x, at & 511, value);
    }

    /** One instruction is put where the machine is, and all its cycles are done. */
    static void tries(RankEntry x, int... bytes) {
        int pc = x.state(4);
        for (int i = 0; i < bytes.length; i++) {
            putByte(x, pc + i, bytes[i]);
        }
        x.run(1);
        for (int i = 0; i < 9 && x.state(2) > 0; i++) {
            x.run(1);
        }
    }

    /** As tries; a fault, or a source that breaks in, is counted as wrong. */
    static void does(RankEntry x, int... bytes) {
        int before = x.count(10);
        tries(x, bytes);
        due(13, "the instruction " + bytes[0] + " is done", x.count(10), before + 1);
    }

    /** Makes a number in R7 (R6 helps; Z and N change). */
    static void makes(RankEntry x, int value) {
        does(x, 1, 7, value >>> 24);
        for (int by = 16; by >= 0; by -= 8) {
            does(x, 7, 7, 8);
            does(x, 1, 6, value >>> by & 255);
            does(x, 6, 7, 6);
        }
    }

    /** Puts any word on the stack. */
    static void pushes(RankEntry x, int value) {
        makes(x, value);
        does(x, 9, 7);
    }

    /** Pops or pushes (words of 0) till so many words lie on the stack. */
    static void levels(RankEntry x, int words) {
        for (int i = 0; i < 96 && x.state(5) > words; i++) {
            does(x, 10, 7);
        }
        does(x, 1, 7, 0);
        for (int i = 0; i < 96 && x.state(5) < words; i++) {
            does(x, 9, 7);
        }
    }

    /** Numbers just outside of a range, far outside, and such as wrap into it. */
    static int[] outside(int least, int most) {
        long[] all = {least - 1L, least - 2L, most + 1L, most + 2L, least - 256L, most + 256L, least - 512L, most + 512L,
            least - 65536L, most + 65536L, Integer.MIN_VALUE, Integer.MIN_VALUE + 1L, Integer.MIN_VALUE + (long) least,
            Integer.MIN_VALUE + (long) most, Integer.MAX_VALUE, Integer.MAX_VALUE - 1L, Integer.MAX_VALUE - 7L};
        return java.util.Arrays.stream(all).filter(n -> n >= Integer.MIN_VALUE && (n < least || n > most))
            .mapToInt(n -> (int) n).distinct().toArray();
    }

    /** All that can be asked without foretelling, as a text. */
    static String seen(RankEntry x) {
        StringBuilder all = new StringBuilder();
        for (int i = 0; i < 512; i++) {
            all.append(x.code(i)).append(' ');
        }
        for (int i = 0; i < 17; i++) {
            all.append(x.state(i)).append(' ').append(x.count(i)).append(' ');
        }
        for (int i = 0; i < 12; i++) {
            all.append(reg(x, i)).append(' ');
        }
        for (int i = 0; i < 96; i++) {
            all.append(word(x, i)).append(' ').append(out(x, i)).append(' ').append(data(x, i)).append(' ');
        }
        for (int i = 0; i < 24; i++) {
            for (int k = 0; k < 8; k++) {
                all.append(x.source(i, k)).append(' ').append(event(x, i, k)).append(' ');
            }
            all.append(x.nest(i)).append(' ').append(x.waited(i)).append(' ');
        }
        return all.toString();
    }

    /** An event's four fields, compared at once. */
    static void dueEvent(int promise, RankEntry x, int i, int kind, int source, int clock, int detail) {
        int[] want = {kind, source, clock, detail};
        for (int k = 0; k < 4; k++) {
            due(promise, "event(" + i + ", " + k + ")", event(x, i, k), want[k]);
        }
    }
}
